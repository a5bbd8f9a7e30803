section
-- ===== PART A: goes FIRST, ahead of the names: the tables' words, and 'selects' of the private methods out of them =====
/-- a private method of a class that the tables say can be made, by its rows of tables_1 -/
def lw_okq (q : MethodName × Nat) : Prop := (q.1.cls ≠ "java/lang/invoke/MethodHandle" ∧ q.1.cls ≠ "java/lang/invoke/VarHandle") ∧ Cond.instantiable q.1.cls q.2 ∈ tables_1 ∧ Cond.privateMethod q.1 ∈ tables_1 ∧ Cond.instanceMethod q.1 ∈ tables_1
theorem lw_p0 : lw_okq (⟨"SeatSwap$Tape", "put", "(I)V"⟩, 2) := ⟨⟨by decide +kernel, by decide +kernel⟩, List.mem_of_getElem? (i := 30) (by decide +kernel), List.mem_of_getElem? (i := 307) (by decide +kernel), List.mem_of_getElem? (i := 308) (by decide +kernel)⟩
theorem lw_p1 : lw_okq (⟨"SeatSwap$SetupReader", "begin", "()V"⟩, 6) := ⟨⟨by decide +kernel, by decide +kernel⟩, List.mem_of_getElem? (i := 24) (by decide +kernel), List.mem_of_getElem? (i := 334) (by decide +kernel), List.mem_of_getElem? (i := 335) (by decide +kernel)⟩
theorem lw_p2 : lw_okq (⟨"SeatSwap$SetupReader", "nextToken", "()V"⟩, 6) := ⟨⟨by decide +kernel, by decide +kernel⟩, List.mem_of_getElem? (i := 24) (by decide +kernel), List.mem_of_getElem? (i := 338) (by decide +kernel), List.mem_of_getElem? (i := 339) (by decide +kernel)⟩
theorem lw_p3 : lw_okq (⟨"SeatSwap$SetupReader", "take", "(Ljava/lang/String;)V"⟩, 6) := ⟨⟨by decide +kernel, by decide +kernel⟩, List.mem_of_getElem? (i := 24) (by decide +kernel), List.mem_of_getElem? (i := 350) (by decide +kernel), List.mem_of_getElem? (i := 351) (by decide +kernel)⟩
theorem lw_p4 : lw_okq (⟨"SeatSwap$SetupReader", "isWord", "(Ljava/lang/String;)Z"⟩, 6) := ⟨⟨by decide +kernel, by decide +kernel⟩, List.mem_of_getElem? (i := 24) (by decide +kernel), List.mem_of_getElem? (i := 354) (by decide +kernel), List.mem_of_getElem? (i := 355) (by decide +kernel)⟩
theorem lw_p5 : lw_okq (⟨"SeatSwap$SetupReader", "pass", "(Z)V"⟩, 6) := ⟨⟨by decide +kernel, by decide +kernel⟩, List.mem_of_getElem? (i := 24) (by decide +kernel), List.mem_of_getElem? (i := 406) (by decide +kernel), List.mem_of_getElem? (i := 407) (by decide +kernel)⟩
theorem lw_p6 : lw_okq (⟨"SeatSwap$SetupReader", "takeInt", "(II)I"⟩, 6) := ⟨⟨by decide +kernel, by decide +kernel⟩, List.mem_of_getElem? (i := 24) (by decide +kernel), List.mem_of_getElem? (i := 410) (by decide +kernel), List.mem_of_getElem? (i := 411) (by decide +kernel)⟩
theorem lw_p7 : lw_okq (⟨"SeatSwap$SetupReader", "number", "()I"⟩, 6) := ⟨⟨by decide +kernel, by decide +kernel⟩, List.mem_of_getElem? (i := 24) (by decide +kernel), List.mem_of_getElem? (i := 414) (by decide +kernel), List.mem_of_getElem? (i := 415) (by decide +kernel)⟩
theorem lw_p8 : lw_okq (⟨"SeatSwap$SetupReader", "isSign", "(C)Z"⟩, 6) := ⟨⟨by decide +kernel, by decide +kernel⟩, List.mem_of_getElem? (i := 24) (by decide +kernel), List.mem_of_getElem? (i := 419) (by decide +kernel), List.mem_of_getElem? (i := 420) (by decide +kernel)⟩
theorem lw_p9 : lw_okq (⟨"SeatSwap$SetupReader", "readTraveller", "(LSeatSwap$Train;)V"⟩, 6) := ⟨⟨by decide +kernel, by decide +kernel⟩, List.mem_of_getElem? (i := 24) (by decide +kernel), List.mem_of_getElem? (i := 423) (by decide +kernel), List.mem_of_getElem? (i := 424) (by decide +kernel)⟩
theorem lw_p10 : lw_okq (⟨"SeatSwap$SetupReader", "takeFreeSeat", "(LSeatSwap$Train;)I"⟩, 6) := ⟨⟨by decide +kernel, by decide +kernel⟩, List.mem_of_getElem? (i := 24) (by decide +kernel), List.mem_of_getElem? (i := 432) (by decide +kernel), List.mem_of_getElem? (i := 433) (by decide +kernel)⟩
theorem lw_p11 : lw_okq (⟨"SeatSwap$SetupReader", "takeName", "()I"⟩, 6) := ⟨⟨by decide +kernel, by decide +kernel⟩, List.mem_of_getElem? (i := 24) (by decide +kernel), List.mem_of_getElem? (i := 452) (by decide +kernel), List.mem_of_getElem? (i := 453) (by decide +kernel)⟩
theorem lw_p12 : lw_okq (⟨"SeatSwap$SetupReader", "packedName", "()I"⟩, 6) := ⟨⟨by decide +kernel, by decide +kernel⟩, List.mem_of_getElem? (i := 24) (by decide +kernel), List.mem_of_getElem? (i := 456) (by decide +kernel), List.mem_of_getElem? (i := 457) (by decide +kernel)⟩
theorem lw_p13 : lw_okq (⟨"SeatSwap$SetupReader", "isName", "()Z"⟩, 6) := ⟨⟨by decide +kernel, by decide +kernel⟩, List.mem_of_getElem? (i := 24) (by decide +kernel), List.mem_of_getElem? (i := 460) (by decide +kernel), List.mem_of_getElem? (i := 461) (by decide +kernel)⟩
theorem lw_p14 : lw_okq (⟨"SeatSwap$SetupReader", "isKeyword", "()Z"⟩, 6) := ⟨⟨by decide +kernel, by decide +kernel⟩, List.mem_of_getElem? (i := 24) (by decide +kernel), List.mem_of_getElem? (i := 464) (by decide +kernel), List.mem_of_getElem? (i := 465) (by decide +kernel)⟩
theorem lw_p15 : lw_okq (⟨"SeatSwap$SetupReader", "takeIfThere", "(Ljava/lang/String;)Z"⟩, 6) := ⟨⟨by decide +kernel, by decide +kernel⟩, List.mem_of_getElem? (i := 24) (by decide +kernel), List.mem_of_getElem? (i := 475) (by decide +kernel), List.mem_of_getElem? (i := 476) (by decide +kernel)⟩
def lw_privs_1 : List (MethodName × Nat) := [(⟨"SeatSwap$Tape", "put", "(I)V"⟩, 2), (⟨"SeatSwap$SetupReader", "begin", "()V"⟩, 6), (⟨"SeatSwap$SetupReader", "nextToken", "()V"⟩, 6), (⟨"SeatSwap$SetupReader", "take", "(Ljava/lang/String;)V"⟩, 6), (⟨"SeatSwap$SetupReader", "isWord", "(Ljava/lang/String;)Z"⟩, 6), (⟨"SeatSwap$SetupReader", "pass", "(Z)V"⟩, 6), (⟨"SeatSwap$SetupReader", "takeInt", "(II)I"⟩, 6), (⟨"SeatSwap$SetupReader", "number", "()I"⟩, 6), (⟨"SeatSwap$SetupReader", "isSign", "(C)Z"⟩, 6), (⟨"SeatSwap$SetupReader", "readTraveller", "(LSeatSwap$Train;)V"⟩, 6), (⟨"SeatSwap$SetupReader", "takeFreeSeat", "(LSeatSwap$Train;)I"⟩, 6), (⟨"SeatSwap$SetupReader", "takeName", "()I"⟩, 6), (⟨"SeatSwap$SetupReader", "packedName", "()I"⟩, 6), (⟨"SeatSwap$SetupReader", "isName", "()Z"⟩, 6), (⟨"SeatSwap$SetupReader", "isKeyword", "()Z"⟩, 6), (⟨"SeatSwap$SetupReader", "takeIfThere", "(Ljava/lang/String;)Z"⟩, 6)]
theorem lw_r1 : ∀ q ∈ lw_privs_1, lw_okq q := List.forall_mem_cons.mpr ⟨lw_p0, List.forall_mem_cons.mpr ⟨lw_p1, List.forall_mem_cons.mpr ⟨lw_p2, List.forall_mem_cons.mpr ⟨lw_p3, List.forall_mem_cons.mpr ⟨lw_p4, List.forall_mem_cons.mpr ⟨lw_p5, List.forall_mem_cons.mpr ⟨lw_p6, List.forall_mem_cons.mpr ⟨lw_p7, List.forall_mem_cons.mpr ⟨lw_p8, List.forall_mem_cons.mpr ⟨lw_p9, List.forall_mem_cons.mpr ⟨lw_p10, List.forall_mem_cons.mpr ⟨lw_p11, List.forall_mem_cons.mpr ⟨lw_p12, List.forall_mem_cons.mpr ⟨lw_p13, List.forall_mem_cons.mpr ⟨lw_p14, List.forall_mem_cons.mpr ⟨lw_p15, fun _ h => absurd h List.not_mem_nil⟩⟩⟩⟩⟩⟩⟩⟩⟩⟩⟩⟩⟩⟩⟩⟩
theorem lw_p16 : lw_okq (⟨"SeatSwap$SetupReader", "takeLike", "()I"⟩, 6) := ⟨⟨by decide +kernel, by decide +kernel⟩, List.mem_of_getElem? (i := 24) (by decide +kernel), List.mem_of_getElem? (i := 479) (by decide +kernel), List.mem_of_getElem? (i := 480) (by decide +kernel)⟩
theorem lw_p17 : lw_okq (⟨"SeatSwap$Train", "countAtTable", "(LSeatSwap$Traveller;I)V"⟩, 13) := ⟨⟨by decide +kernel, by decide +kernel⟩, List.mem_of_getElem? (i := 160) (by decide +kernel), List.mem_of_getElem? (i := 495) (by decide +kernel), List.mem_of_getElem? (i := 496) (by decide +kernel)⟩
theorem lw_p18 : lw_okq (⟨"SeatSwap$Past", "trainAt", "(I)LSeatSwap$Train;"⟩, 3) := ⟨⟨by decide +kernel, by decide +kernel⟩, List.mem_of_getElem? (i := 244) (by decide +kernel), List.mem_of_getElem? (i := 536) (by decide +kernel), List.mem_of_getElem? (i := 537) (by decide +kernel)⟩
theorem lw_p19 : lw_okq (⟨"SeatSwap$Log", "indexOf", "(II)I"⟩, 3) := ⟨⟨by decide +kernel, by decide +kernel⟩, List.mem_of_getElem? (i := 169) (by decide +kernel), List.mem_of_getElem? (i := 554) (by decide +kernel), List.mem_of_getElem? (i := 555) (by decide +kernel)⟩
theorem lw_p20 : lw_okq (⟨"SeatSwap$Log", "put", "(II)V"⟩, 3) := ⟨⟨by decide +kernel, by decide +kernel⟩, List.mem_of_getElem? (i := 169) (by decide +kernel), List.mem_of_getElem? (i := 559) (by decide +kernel), List.mem_of_getElem? (i := 560) (by decide +kernel)⟩
theorem lw_p21 : lw_okq (⟨"SeatSwap", "arePair", "(II)Z"⟩, 10) := ⟨⟨by decide +kernel, by decide +kernel⟩, List.mem_of_getElem? (i := 16) (by decide +kernel), List.mem_of_getElem? (i := 596) (by decide +kernel), List.mem_of_getElem? (i := 597) (by decide +kernel)⟩
theorem lw_p22 : lw_okq (⟨"SeatSwap$Train", "membersAt", "(II)I"⟩, 13) := ⟨⟨by decide +kernel, by decide +kernel⟩, List.mem_of_getElem? (i := 160) (by decide +kernel), List.mem_of_getElem? (i := 621) (by decide +kernel), List.mem_of_getElem? (i := 622) (by decide +kernel)⟩
theorem lw_p23 : lw_okq (⟨"SeatSwap$Train", "exchangeSeats", "(II)V"⟩, 13) := ⟨⟨by decide +kernel, by decide +kernel⟩, List.mem_of_getElem? (i := 160) (by decide +kernel), List.mem_of_getElem? (i := 631) (by decide +kernel), List.mem_of_getElem? (i := 632) (by decide +kernel)⟩
theorem lw_p24 : lw_okq (⟨"SeatSwap$Train", "sitDown", "(II)V"⟩, 13) := ⟨⟨by decide +kernel, by decide +kernel⟩, List.mem_of_getElem? (i := 160) (by decide +kernel), List.mem_of_getElem? (i := 635) (by decide +kernel), List.mem_of_getElem? (i := 636) (by decide +kernel)⟩
theorem lw_p25 : lw_okq (⟨"SeatSwap$Train", "passSeats", "(III)V"⟩, 13) := ⟨⟨by decide +kernel, by decide +kernel⟩, List.mem_of_getElem? (i := 160) (by decide +kernel), List.mem_of_getElem? (i := 674) (by decide +kernel), List.mem_of_getElem? (i := 675) (by decide +kernel)⟩
theorem lw_p26 : lw_okq (⟨"SeatSwap", "settleDraft", "()I"⟩, 10) := ⟨⟨by decide +kernel, by decide +kernel⟩, List.mem_of_getElem? (i := 16) (by decide +kernel), List.mem_of_getElem? (i := 690) (by decide +kernel), List.mem_of_getElem? (i := 691) (by decide +kernel)⟩
theorem lw_p27 : lw_okq (⟨"SeatSwap$Train", "letOff", "(I)V"⟩, 13) := ⟨⟨by decide +kernel, by decide +kernel⟩, List.mem_of_getElem? (i := 160) (by decide +kernel), List.mem_of_getElem? (i := 712) (by decide +kernel), List.mem_of_getElem? (i := 713) (by decide +kernel)⟩
theorem lw_p28 : lw_okq (⟨"SeatSwap$Train", "isAt", "(II)Z"⟩, 13) := ⟨⟨by decide +kernel, by decide +kernel⟩, List.mem_of_getElem? (i := 160) (by decide +kernel), List.mem_of_getElem? (i := 787) (by decide +kernel), List.mem_of_getElem? (i := 788) (by decide +kernel)⟩
theorem lw_p29 : lw_okq (⟨"SeatSwap$Train", "seatSign", "(I)I"⟩, 13) := ⟨⟨by decide +kernel, by decide +kernel⟩, List.mem_of_getElem? (i := 160) (by decide +kernel), List.mem_of_getElem? (i := 914) (by decide +kernel), List.mem_of_getElem? (i := 915) (by decide +kernel)⟩
theorem lw_p30 : lw_okq (⟨"SeatSwap$SetupWriter", "putText", "(Ljava/lang/String;)V"⟩, 3) := ⟨⟨by decide +kernel, by decide +kernel⟩, List.mem_of_getElem? (i := 142) (by decide +kernel), List.mem_of_getElem? (i := 928) (by decide +kernel), List.mem_of_getElem? (i := 929) (by decide +kernel)⟩
theorem lw_p31 : lw_okq (⟨"SeatSwap$SetupWriter", "put", "(I)V"⟩, 3) := ⟨⟨by decide +kernel, by decide +kernel⟩, List.mem_of_getElem? (i := 142) (by decide +kernel), List.mem_of_getElem? (i := 934) (by decide +kernel), List.mem_of_getElem? (i := 935) (by decide +kernel)⟩
def lw_privs_2 : List (MethodName × Nat) := [(⟨"SeatSwap$SetupReader", "takeLike", "()I"⟩, 6), (⟨"SeatSwap$Train", "countAtTable", "(LSeatSwap$Traveller;I)V"⟩, 13), (⟨"SeatSwap$Past", "trainAt", "(I)LSeatSwap$Train;"⟩, 3), (⟨"SeatSwap$Log", "indexOf", "(II)I"⟩, 3), (⟨"SeatSwap$Log", "put", "(II)V"⟩, 3), (⟨"SeatSwap", "arePair", "(II)Z"⟩, 10), (⟨"SeatSwap$Train", "membersAt", "(II)I"⟩, 13), (⟨"SeatSwap$Train", "exchangeSeats", "(II)V"⟩, 13), (⟨"SeatSwap$Train", "sitDown", "(II)V"⟩, 13), (⟨"SeatSwap$Train", "passSeats", "(III)V"⟩, 13), (⟨"SeatSwap", "settleDraft", "()I"⟩, 10), (⟨"SeatSwap$Train", "letOff", "(I)V"⟩, 13), (⟨"SeatSwap$Train", "isAt", "(II)Z"⟩, 13), (⟨"SeatSwap$Train", "seatSign", "(I)I"⟩, 13), (⟨"SeatSwap$SetupWriter", "putText", "(Ljava/lang/String;)V"⟩, 3), (⟨"SeatSwap$SetupWriter", "put", "(I)V"⟩, 3)]
theorem lw_r2 : ∀ q ∈ lw_privs_2, lw_okq q := List.forall_mem_cons.mpr ⟨lw_p16, List.forall_mem_cons.mpr ⟨lw_p17, List.forall_mem_cons.mpr ⟨lw_p18, List.forall_mem_cons.mpr ⟨lw_p19, List.forall_mem_cons.mpr ⟨lw_p20, List.forall_mem_cons.mpr ⟨lw_p21, List.forall_mem_cons.mpr ⟨lw_p22, List.forall_mem_cons.mpr ⟨lw_p23, List.forall_mem_cons.mpr ⟨lw_p24, List.forall_mem_cons.mpr ⟨lw_p25, List.forall_mem_cons.mpr ⟨lw_p26, List.forall_mem_cons.mpr ⟨lw_p27, List.forall_mem_cons.mpr ⟨lw_p28, List.forall_mem_cons.mpr ⟨lw_p29, List.forall_mem_cons.mpr ⟨lw_p30, List.forall_mem_cons.mpr ⟨lw_p31, fun _ h => absurd h List.not_mem_nil⟩⟩⟩⟩⟩⟩⟩⟩⟩⟩⟩⟩⟩⟩⟩⟩
theorem lw_p32 : lw_okq (⟨"SeatSwap$SetupWriter", "putNumber", "(I)V"⟩, 3) := ⟨⟨by decide +kernel, by decide +kernel⟩, List.mem_of_getElem? (i := 142) (by decide +kernel), List.mem_of_getElem? (i := 938) (by decide +kernel), List.mem_of_getElem? (i := 939) (by decide +kernel)⟩
theorem lw_p33 : lw_okq (⟨"SeatSwap$SetupWriter", "putTraveller", "(LSeatSwap$Traveller;)V"⟩, 3) := ⟨⟨by decide +kernel, by decide +kernel⟩, List.mem_of_getElem? (i := 142) (by decide +kernel), List.mem_of_getElem? (i := 945) (by decide +kernel), List.mem_of_getElem? (i := 946) (by decide +kernel)⟩
theorem lw_p34 : lw_okq (⟨"SeatSwap$SetupWriter", "putPart", "(Ljava/lang/String;II)V"⟩, 3) := ⟨⟨by decide +kernel, by decide +kernel⟩, List.mem_of_getElem? (i := 142) (by decide +kernel), List.mem_of_getElem? (i := 953) (by decide +kernel), List.mem_of_getElem? (i := 954) (by decide +kernel)⟩
theorem lw_p35 : lw_okq (⟨"SeatSwap$SetupWriter", "putLike", "(Ljava/lang/String;I)V"⟩, 3) := ⟨⟨by decide +kernel, by decide +kernel⟩, List.mem_of_getElem? (i := 142) (by decide +kernel), List.mem_of_getElem? (i := 958) (by decide +kernel), List.mem_of_getElem? (i := 959) (by decide +kernel)⟩
theorem lw_p36 : lw_okq (⟨"SeatSwapModel", "next", "()V"⟩, 18) := ⟨⟨by decide +kernel, by decide +kernel⟩, List.mem_of_getElem? (i := 971) (by decide +kernel), List.mem_of_getElem? (i := 1047) (by decide +kernel), List.mem_of_getElem? (i := 1048) (by decide +kernel)⟩
theorem lw_p37 : lw_okq (⟨"SeatSwapModel", "isSmall", "(I)Z"⟩, 18) := ⟨⟨by decide +kernel, by decide +kernel⟩, List.mem_of_getElem? (i := 971) (by decide +kernel), List.mem_of_getElem? (i := 1051) (by decide +kernel), List.mem_of_getElem? (i := 1052) (by decide +kernel)⟩
theorem lw_p38 : lw_okq (⟨"SeatSwapModel", "nextWord", "()V"⟩, 18) := ⟨⟨by decide +kernel, by decide +kernel⟩, List.mem_of_getElem? (i := 971) (by decide +kernel), List.mem_of_getElem? (i := 1055) (by decide +kernel), List.mem_of_getElem? (i := 1056) (by decide +kernel)⟩
theorem lw_p39 : lw_okq (⟨"SeatSwapModel", "isDigit", "(I)Z"⟩, 18) := ⟨⟨by decide +kernel, by decide +kernel⟩, List.mem_of_getElem? (i := 971) (by decide +kernel), List.mem_of_getElem? (i := 1059) (by decide +kernel), List.mem_of_getElem? (i := 1060) (by decide +kernel)⟩
theorem lw_p40 : lw_okq (⟨"SeatSwapModel", "nextNumber", "()V"⟩, 18) := ⟨⟨by decide +kernel, by decide +kernel⟩, List.mem_of_getElem? (i := 971) (by decide +kernel), List.mem_of_getElem? (i := 1063) (by decide +kernel), List.mem_of_getElem? (i := 1064) (by decide +kernel)⟩
theorem lw_p41 : lw_okq (⟨"SeatSwapModel", "is", "(I)Z"⟩, 18) := ⟨⟨by decide +kernel, by decide +kernel⟩, List.mem_of_getElem? (i := 971) (by decide +kernel), List.mem_of_getElem? (i := 1068) (by decide +kernel), List.mem_of_getElem? (i := 1069) (by decide +kernel)⟩
theorem lw_p42 : lw_okq (⟨"SeatSwapModel", "takes", "(Z)Z"⟩, 18) := ⟨⟨by decide +kernel, by decide +kernel⟩, List.mem_of_getElem? (i := 971) (by decide +kernel), List.mem_of_getElem? (i := 1072) (by decide +kernel), List.mem_of_getElem? (i := 1073) (by decide +kernel)⟩
theorem lw_p43 : lw_okq (⟨"SeatSwapModel", "takesNumber", "(II)I"⟩, 18) := ⟨⟨by decide +kernel, by decide +kernel⟩, List.mem_of_getElem? (i := 971) (by decide +kernel), List.mem_of_getElem? (i := 1076) (by decide +kernel), List.mem_of_getElem? (i := 1077) (by decide +kernel)⟩
theorem lw_p44 : lw_okq (⟨"SeatSwapModel", "readSeat", "()V"⟩, 18) := ⟨⟨by decide +kernel, by decide +kernel⟩, List.mem_of_getElem? (i := 971) (by decide +kernel), List.mem_of_getElem? (i := 1085) (by decide +kernel), List.mem_of_getElem? (i := 1086) (by decide +kernel)⟩
theorem lw_p45 : lw_okq (⟨"SeatSwapModel", "takesWord", "(I)Z"⟩, 18) := ⟨⟨by decide +kernel, by decide +kernel⟩, List.mem_of_getElem? (i := 971) (by decide +kernel), List.mem_of_getElem? (i := 1108) (by decide +kernel), List.mem_of_getElem? (i := 1109) (by decide +kernel)⟩
theorem lw_p46 : lw_okq (⟨"SeatSwapModel", "takesLike", "()I"⟩, 18) := ⟨⟨by decide +kernel, by decide +kernel⟩, List.mem_of_getElem? (i := 971) (by decide +kernel), List.mem_of_getElem? (i := 1114) (by decide +kernel), List.mem_of_getElem? (i := 1115) (by decide +kernel)⟩
theorem lw_p47 : lw_okq (⟨"SeatSwapModel", "tapeName", "()I"⟩, 18) := ⟨⟨by decide +kernel, by decide +kernel⟩, List.mem_of_getElem? (i := 971) (by decide +kernel), List.mem_of_getElem? (i := 1137) (by decide +kernel), List.mem_of_getElem? (i := 1138) (by decide +kernel)⟩
def lw_privs_3 : List (MethodName × Nat) := [(⟨"SeatSwap$SetupWriter", "putNumber", "(I)V"⟩, 3), (⟨"SeatSwap$SetupWriter", "putTraveller", "(LSeatSwap$Traveller;)V"⟩, 3), (⟨"SeatSwap$SetupWriter", "putPart", "(Ljava/lang/String;II)V"⟩, 3), (⟨"SeatSwap$SetupWriter", "putLike", "(Ljava/lang/String;I)V"⟩, 3), (⟨"SeatSwapModel", "next", "()V"⟩, 18), (⟨"SeatSwapModel", "isSmall", "(I)Z"⟩, 18), (⟨"SeatSwapModel", "nextWord", "()V"⟩, 18), (⟨"SeatSwapModel", "isDigit", "(I)Z"⟩, 18), (⟨"SeatSwapModel", "nextNumber", "()V"⟩, 18), (⟨"SeatSwapModel", "is", "(I)Z"⟩, 18), (⟨"SeatSwapModel", "takes", "(Z)Z"⟩, 18), (⟨"SeatSwapModel", "takesNumber", "(II)I"⟩, 18), (⟨"SeatSwapModel", "readSeat", "()V"⟩, 18), (⟨"SeatSwapModel", "takesWord", "(I)Z"⟩, 18), (⟨"SeatSwapModel", "takesLike", "()I"⟩, 18), (⟨"SeatSwapModel", "tapeName", "()I"⟩, 18)]
theorem lw_r3 : ∀ q ∈ lw_privs_3, lw_okq q := List.forall_mem_cons.mpr ⟨lw_p32, List.forall_mem_cons.mpr ⟨lw_p33, List.forall_mem_cons.mpr ⟨lw_p34, List.forall_mem_cons.mpr ⟨lw_p35, List.forall_mem_cons.mpr ⟨lw_p36, List.forall_mem_cons.mpr ⟨lw_p37, List.forall_mem_cons.mpr ⟨lw_p38, List.forall_mem_cons.mpr ⟨lw_p39, List.forall_mem_cons.mpr ⟨lw_p40, List.forall_mem_cons.mpr ⟨lw_p41, List.forall_mem_cons.mpr ⟨lw_p42, List.forall_mem_cons.mpr ⟨lw_p43, List.forall_mem_cons.mpr ⟨lw_p44, List.forall_mem_cons.mpr ⟨lw_p45, List.forall_mem_cons.mpr ⟨lw_p46, List.forall_mem_cons.mpr ⟨lw_p47, fun _ h => absurd h List.not_mem_nil⟩⟩⟩⟩⟩⟩⟩⟩⟩⟩⟩⟩⟩⟩⟩⟩
theorem lw_p48 : lw_okq (⟨"SeatSwapModel", "isSeat", "(I)Z"⟩, 18) := ⟨⟨by decide +kernel, by decide +kernel⟩, List.mem_of_getElem? (i := 971) (by decide +kernel), List.mem_of_getElem? (i := 1141) (by decide +kernel), List.mem_of_getElem? (i := 1142) (by decide +kernel)⟩
theorem lw_p49 : lw_okq (⟨"SeatSwapModel", "keepForUndo", "()V"⟩, 18) := ⟨⟨by decide +kernel, by decide +kernel⟩, List.mem_of_getElem? (i := 971) (by decide +kernel), List.mem_of_getElem? (i := 1145) (by decide +kernel), List.mem_of_getElem? (i := 1146) (by decide +kernel)⟩
theorem lw_p50 : lw_okq (⟨"SeatSwapModel", "tells", "(III)V"⟩, 18) := ⟨⟨by decide +kernel, by decide +kernel⟩, List.mem_of_getElem? (i := 971) (by decide +kernel), List.mem_of_getElem? (i := 1149) (by decide +kernel), List.mem_of_getElem? (i := 1150) (by decide +kernel)⟩
theorem lw_p51 : lw_okq (⟨"SeatSwapModel", "isTraveller", "(I)Z"⟩, 18) := ⟨⟨by decide +kernel, by decide +kernel⟩, List.mem_of_getElem? (i := 971) (by decide +kernel), List.mem_of_getElem? (i := 1157) (by decide +kernel), List.mem_of_getElem? (i := 1158) (by decide +kernel)⟩
theorem lw_p52 : lw_okq (⟨"SeatSwapModel", "isNumber", "(II)Z"⟩, 18) := ⟨⟨by decide +kernel, by decide +kernel⟩, List.mem_of_getElem? (i := 971) (by decide +kernel), List.mem_of_getElem? (i := 1161) (by decide +kernel), List.mem_of_getElem? (i := 1162) (by decide +kernel)⟩
theorem lw_p53 : lw_okq (⟨"SeatSwapModel", "isPair", "(II)Z"⟩, 18) := ⟨⟨by decide +kernel, by decide +kernel⟩, List.mem_of_getElem? (i := 971) (by decide +kernel), List.mem_of_getElem? (i := 1179) (by decide +kernel), List.mem_of_getElem? (i := 1180) (by decide +kernel)⟩
theorem lw_p54 : lw_okq (⟨"SeatSwapModel", "takesSpare", "()V"⟩, 18) := ⟨⟨by decide +kernel, by decide +kernel⟩, List.mem_of_getElem? (i := 971) (by decide +kernel), List.mem_of_getElem? (i := 1243) (by decide +kernel), List.mem_of_getElem? (i := 1244) (by decide +kernel)⟩
theorem lw_p55 : lw_okq (⟨"SeatSwapModel", "stops", "()V"⟩, 18) := ⟨⟨by decide +kernel, by decide +kernel⟩, List.mem_of_getElem? (i := 971) (by decide +kernel), List.mem_of_getElem? (i := 1263) (by decide +kernel), List.mem_of_getElem? (i := 1264) (by decide +kernel)⟩
theorem lw_p56 : lw_okq (⟨"SeatSwapModel", "getsOff", "(I)V"⟩, 18) := ⟨⟨by decide +kernel, by decide +kernel⟩, List.mem_of_getElem? (i := 971) (by decide +kernel), List.mem_of_getElem? (i := 1267) (by decide +kernel), List.mem_of_getElem? (i := 1268) (by decide +kernel)⟩
theorem lw_p57 : lw_okq (⟨"SeatSwapModel", "sweetsAll", "()I"⟩, 18) := ⟨⟨by decide +kernel, by decide +kernel⟩, List.mem_of_getElem? (i := 971) (by decide +kernel), List.mem_of_getElem? (i := 1290) (by decide +kernel), List.mem_of_getElem? (i := 1291) (by decide +kernel)⟩
theorem lw_p58 : lw_okq (⟨"SeatSwapModel", "familiesAll", "()I"⟩, 18) := ⟨⟨by decide +kernel, by decide +kernel⟩, List.mem_of_getElem? (i := 971) (by decide +kernel), List.mem_of_getElem? (i := 1297) (by decide +kernel), List.mem_of_getElem? (i := 1298) (by decide +kernel)⟩
theorem lw_p59 : lw_okq (⟨"SeatSwapModel", "membersOf", "(I)I"⟩, 18) := ⟨⟨by decide +kernel, by decide +kernel⟩, List.mem_of_getElem? (i := 971) (by decide +kernel), List.mem_of_getElem? (i := 1301) (by decide +kernel), List.mem_of_getElem? (i := 1302) (by decide +kernel)⟩
theorem lw_p60 : lw_okq (⟨"SeatSwapModel", "rankOf", "(I)I"⟩, 18) := ⟨⟨by decide +kernel, by decide +kernel⟩, List.mem_of_getElem? (i := 971) (by decide +kernel), List.mem_of_getElem? (i := 1309) (by decide +kernel), List.mem_of_getElem? (i := 1310) (by decide +kernel)⟩
theorem lw_p61 : lw_okq (⟨"SeatSwapModel", "isAtTable", "(II)Z"⟩, 18) := ⟨⟨by decide +kernel, by decide +kernel⟩, List.mem_of_getElem? (i := 971) (by decide +kernel), List.mem_of_getElem? (i := 1328) (by decide +kernel), List.mem_of_getElem? (i := 1329) (by decide +kernel)⟩
theorem lw_p62 : lw_okq (⟨"SeatSwapModel", "familyAt", "(I)I"⟩, 18) := ⟨⟨by decide +kernel, by decide +kernel⟩, List.mem_of_getElem? (i := 971) (by decide +kernel), List.mem_of_getElem? (i := 1332) (by decide +kernel), List.mem_of_getElem? (i := 1333) (by decide +kernel)⟩
theorem lw_p63 : lw_okq (⟨"SeatSwapModel", "membersAt", "(II)I"⟩, 18) := ⟨⟨by decide +kernel, by decide +kernel⟩, List.mem_of_getElem? (i := 971) (by decide +kernel), List.mem_of_getElem? (i := 1336) (by decide +kernel), List.mem_of_getElem? (i := 1337) (by decide +kernel)⟩
def lw_privs_4 : List (MethodName × Nat) := [(⟨"SeatSwapModel", "isSeat", "(I)Z"⟩, 18), (⟨"SeatSwapModel", "keepForUndo", "()V"⟩, 18), (⟨"SeatSwapModel", "tells", "(III)V"⟩, 18), (⟨"SeatSwapModel", "isTraveller", "(I)Z"⟩, 18), (⟨"SeatSwapModel", "isNumber", "(II)Z"⟩, 18), (⟨"SeatSwapModel", "isPair", "(II)Z"⟩, 18), (⟨"SeatSwapModel", "takesSpare", "()V"⟩, 18), (⟨"SeatSwapModel", "stops", "()V"⟩, 18), (⟨"SeatSwapModel", "getsOff", "(I)V"⟩, 18), (⟨"SeatSwapModel", "sweetsAll", "()I"⟩, 18), (⟨"SeatSwapModel", "familiesAll", "()I"⟩, 18), (⟨"SeatSwapModel", "membersOf", "(I)I"⟩, 18), (⟨"SeatSwapModel", "rankOf", "(I)I"⟩, 18), (⟨"SeatSwapModel", "isAtTable", "(II)Z"⟩, 18), (⟨"SeatSwapModel", "familyAt", "(I)I"⟩, 18), (⟨"SeatSwapModel", "membersAt", "(II)I"⟩, 18)]
theorem lw_r4 : ∀ q ∈ lw_privs_4, lw_okq q := List.forall_mem_cons.mpr ⟨lw_p48, List.forall_mem_cons.mpr ⟨lw_p49, List.forall_mem_cons.mpr ⟨lw_p50, List.forall_mem_cons.mpr ⟨lw_p51, List.forall_mem_cons.mpr ⟨lw_p52, List.forall_mem_cons.mpr ⟨lw_p53, List.forall_mem_cons.mpr ⟨lw_p54, List.forall_mem_cons.mpr ⟨lw_p55, List.forall_mem_cons.mpr ⟨lw_p56, List.forall_mem_cons.mpr ⟨lw_p57, List.forall_mem_cons.mpr ⟨lw_p58, List.forall_mem_cons.mpr ⟨lw_p59, List.forall_mem_cons.mpr ⟨lw_p60, List.forall_mem_cons.mpr ⟨lw_p61, List.forall_mem_cons.mpr ⟨lw_p62, List.forall_mem_cons.mpr ⟨lw_p63, fun _ h => absurd h List.not_mem_nil⟩⟩⟩⟩⟩⟩⟩⟩⟩⟩⟩⟩⟩⟩⟩⟩
theorem lw_p64 : lw_okq (⟨"SeatSwapModel", "tablesOfFamily", "(I)I"⟩, 18) := ⟨⟨by decide +kernel, by decide +kernel⟩, List.mem_of_getElem? (i := 971) (by decide +kernel), List.mem_of_getElem? (i := 1344) (by decide +kernel), List.mem_of_getElem? (i := 1345) (by decide +kernel)⟩
theorem lw_p65 : lw_okq (⟨"SeatSwapModel", "joyOfFamily", "(I)I"⟩, 18) := ⟨⟨by decide +kernel, by decide +kernel⟩, List.mem_of_getElem? (i := 971) (by decide +kernel), List.mem_of_getElem? (i := 1348) (by decide +kernel), List.mem_of_getElem? (i := 1349) (by decide +kernel)⟩
theorem lw_p66 : lw_okq (⟨"SeatSwapModel", "layPlan", "()V"⟩, 18) := ⟨⟨by decide +kernel, by decide +kernel⟩, List.mem_of_getElem? (i := 971) (by decide +kernel), List.mem_of_getElem? (i := 1412) (by decide +kernel), List.mem_of_getElem? (i := 1413) (by decide +kernel)⟩
theorem lw_p67 : lw_okq (⟨"SeatSwapModel", "puts", "(I)V"⟩, 18) := ⟨⟨by decide +kernel, by decide +kernel⟩, List.mem_of_getElem? (i := 971) (by decide +kernel), List.mem_of_getElem? (i := 1416) (by decide +kernel), List.mem_of_getElem? (i := 1417) (by decide +kernel)⟩
theorem lw_p68 : lw_okq (⟨"SeatSwapModel", "putsSeat", "(I)V"⟩, 18) := ⟨⟨by decide +kernel, by decide +kernel⟩, List.mem_of_getElem? (i := 971) (by decide +kernel), List.mem_of_getElem? (i := 1420) (by decide +kernel), List.mem_of_getElem? (i := 1421) (by decide +kernel)⟩
theorem lw_p69 : lw_okq (⟨"SeatSwapModel", "writtenAt", "(I)I"⟩, 18) := ⟨⟨by decide +kernel, by decide +kernel⟩, List.mem_of_getElem? (i := 971) (by decide +kernel), List.mem_of_getElem? (i := 1428) (by decide +kernel), List.mem_of_getElem? (i := 1429) (by decide +kernel)⟩
theorem lw_p70 : lw_okq (⟨"SeatSwapModel", "laySetup", "()V"⟩, 18) := ⟨⟨by decide +kernel, by decide +kernel⟩, List.mem_of_getElem? (i := 971) (by decide +kernel), List.mem_of_getElem? (i := 1436) (by decide +kernel), List.mem_of_getElem? (i := 1437) (by decide +kernel)⟩
theorem lw_p71 : lw_okq (⟨"SeatSwapModel", "putsWord", "(I)V"⟩, 18) := ⟨⟨by decide +kernel, by decide +kernel⟩, List.mem_of_getElem? (i := 971) (by decide +kernel), List.mem_of_getElem? (i := 1440) (by decide +kernel), List.mem_of_getElem? (i := 1441) (by decide +kernel)⟩
theorem lw_p72 : lw_okq (⟨"SeatSwapModel", "putsNext", "(I)V"⟩, 18) := ⟨⟨by decide +kernel, by decide +kernel⟩, List.mem_of_getElem? (i := 971) (by decide +kernel), List.mem_of_getElem? (i := 1444) (by decide +kernel), List.mem_of_getElem? (i := 1445) (by decide +kernel)⟩
theorem lw_p73 : lw_okq (⟨"SeatSwapModel", "putsNumber", "(I)V"⟩, 18) := ⟨⟨by decide +kernel, by decide +kernel⟩, List.mem_of_getElem? (i := 971) (by decide +kernel), List.mem_of_getElem? (i := 1448) (by decide +kernel), List.mem_of_getElem? (i := 1449) (by decide +kernel)⟩
theorem lw_p74 : lw_okq (⟨"SeatSwapModel", "putsTraveller", "(I)V"⟩, 18) := ⟨⟨by decide +kernel, by decide +kernel⟩, List.mem_of_getElem? (i := 971) (by decide +kernel), List.mem_of_getElem? (i := 1452) (by decide +kernel), List.mem_of_getElem? (i := 1453) (by decide +kernel)⟩
theorem lw_p75 : lw_okq (⟨"SeatSwapModel", "putsPart", "(II)V"⟩, 18) := ⟨⟨by decide +kernel, by decide +kernel⟩, List.mem_of_getElem? (i := 971) (by decide +kernel), List.mem_of_getElem? (i := 1456) (by decide +kernel), List.mem_of_getElem? (i := 1457) (by decide +kernel)⟩
theorem lw_p76 : lw_okq (⟨"SeatSwapModel", "putsLike", "(II)V"⟩, 18) := ⟨⟨by decide +kernel, by decide +kernel⟩, List.mem_of_getElem? (i := 971) (by decide +kernel), List.mem_of_getElem? (i := 1460) (by decide +kernel), List.mem_of_getElem? (i := 1461) (by decide +kernel)⟩
theorem lw_p77 : lw_okq (⟨"SeatSwapModel", "putsSweets", "(I)V"⟩, 18) := ⟨⟨by decide +kernel, by decide +kernel⟩, List.mem_of_getElem? (i := 971) (by decide +kernel), List.mem_of_getElem? (i := 1464) (by decide +kernel), List.mem_of_getElem? (i := 1465) (by decide +kernel)⟩
def lw_privs_5 : List (MethodName × Nat) := [(⟨"SeatSwapModel", "tablesOfFamily", "(I)I"⟩, 18), (⟨"SeatSwapModel", "joyOfFamily", "(I)I"⟩, 18), (⟨"SeatSwapModel", "layPlan", "()V"⟩, 18), (⟨"SeatSwapModel", "puts", "(I)V"⟩, 18), (⟨"SeatSwapModel", "putsSeat", "(I)V"⟩, 18), (⟨"SeatSwapModel", "writtenAt", "(I)I"⟩, 18), (⟨"SeatSwapModel", "laySetup", "()V"⟩, 18), (⟨"SeatSwapModel", "putsWord", "(I)V"⟩, 18), (⟨"SeatSwapModel", "putsNext", "(I)V"⟩, 18), (⟨"SeatSwapModel", "putsNumber", "(I)V"⟩, 18), (⟨"SeatSwapModel", "putsTraveller", "(I)V"⟩, 18), (⟨"SeatSwapModel", "putsPart", "(II)V"⟩, 18), (⟨"SeatSwapModel", "putsLike", "(II)V"⟩, 18), (⟨"SeatSwapModel", "putsSweets", "(I)V"⟩, 18)]
theorem lw_r5 : ∀ q ∈ lw_privs_5, lw_okq q := List.forall_mem_cons.mpr ⟨lw_p64, List.forall_mem_cons.mpr ⟨lw_p65, List.forall_mem_cons.mpr ⟨lw_p66, List.forall_mem_cons.mpr ⟨lw_p67, List.forall_mem_cons.mpr ⟨lw_p68, List.forall_mem_cons.mpr ⟨lw_p69, List.forall_mem_cons.mpr ⟨lw_p70, List.forall_mem_cons.mpr ⟨lw_p71, List.forall_mem_cons.mpr ⟨lw_p72, List.forall_mem_cons.mpr ⟨lw_p73, List.forall_mem_cons.mpr ⟨lw_p74, List.forall_mem_cons.mpr ⟨lw_p75, List.forall_mem_cons.mpr ⟨lw_p76, List.forall_mem_cons.mpr ⟨lw_p77, fun _ h => absurd h List.not_mem_nil⟩⟩⟩⟩⟩⟩⟩⟩⟩⟩⟩⟩⟩⟩
def lw_privs : List (MethodName × Nat) := lw_privs_1 ++ (lw_privs_2 ++ (lw_privs_3 ++ (lw_privs_4 ++ (lw_privs_5))))
def lw_tbl : List Cond := k2_sels lw_privs ++ tables_1
theorem lw_privs_ok : ∀ q ∈ lw_privs, lw_okq q := by
  show ∀ q ∈ lw_privs_1 ++ (lw_privs_2 ++ (lw_privs_3 ++ (lw_privs_4 ++ (lw_privs_5)))), lw_okq q
  exact List.forall_mem_append.mpr ⟨lw_r1, List.forall_mem_append.mpr ⟨lw_r2, List.forall_mem_append.mpr ⟨lw_r3, List.forall_mem_append.mpr ⟨lw_r4, lw_r5⟩⟩⟩⟩
/-- the streams that the claim lets the run draw from -/
abbrev lw_cs : List Choice := [Jvm.Choice.named "NaN.bits"]
theorem lw_bits : nanBits ∈ lw_cs := by first | decide | exact List.mem_cons_self | simp [lw_cs, nanBits]
-- ===== end of PART A; names, as printed, trimmed =====
def RX0 : String := "SeatSwap$Log"
def TX0 : u_T := fun k => match k with
  | 0 => ("SeatSwap$Log", "parts", "[I", true)
  | 1 => ("SeatSwap$Log", "oldest", "I", false)
  | _ => ("SeatSwap$Log", "size", "I", false)
def tyX0 : Nat → FieldType := fun k => match k with
  | 0 => .array .int
  | 1 => .int
  | _ => .int
abbrev wsX00 : List Cond := u_ws RX0 TX0 3
theorem nmX0 : ∀ a, a < 3 → ∀ b, b < 3 → a ≠ b → (TX0 a).2.1 ≠ (TX0 b).2.1 := by decide +kernel
theorem tyX0_ok : ∀ k, k < 3 → parseFieldDescriptor (TX0 k).2.2.1 = some (tyX0 k) := by decide +kernel
abbrev cX0_init : ByteArray := prog_2_method_1_code
def yX0_init : MethodName := ⟨RX0, "<init>", "()V"⟩
abbrev cX0_clear : ByteArray := prog_2_method_2_code
def yX0_clear : MethodName := ⟨RX0, "clear", "()V"⟩
abbrev cX0_copyFrom : ByteArray := prog_2_method_3_code
def yX0_copyFrom : MethodName := ⟨RX0, "copyFrom", "(LSeatSwap$Log;)V"⟩
abbrev cX0_indexOf : ByteArray := prog_2_method_4_code
def yX0_indexOf : MethodName := ⟨RX0, "indexOf", "(II)I"⟩
abbrev cX0_put : ByteArray := prog_2_method_5_code
def yX0_put : MethodName := ⟨RX0, "put", "(II)V"⟩
abbrev cX0_add : ByteArray := prog_2_method_6_code
def yX0_add : MethodName := ⟨RX0, "add", "(III)V"⟩
abbrev cX0_part : ByteArray := prog_2_method_7_code
def yX0_part : MethodName := ⟨RX0, "part", "(II)I"⟩
def RX1 : String := "SeatSwap$Past"
def TX1 : u_T := fun k => match k with
  | 0 => ("SeatSwap$Past", "trains", "[LSeatSwap$Train;", true)
  | 1 => ("SeatSwap$Past", "oldest", "I", false)
  | _ => ("SeatSwap$Past", "count", "I", false)
def tyX1 : Nat → FieldType := fun k => match k with
  | 0 => .array (.object "SeatSwap$Train")
  | 1 => .int
  | _ => .int
abbrev wsX10 : List Cond := u_ws RX1 TX1 3
theorem nmX1 : ∀ a, a < 3 → ∀ b, b < 3 → a ≠ b → (TX1 a).2.1 ≠ (TX1 b).2.1 := by decide +kernel
theorem tyX1_ok : ∀ k, k < 3 → parseFieldDescriptor (TX1 k).2.2.1 = some (tyX1 k) := by decide +kernel
abbrev cX1_init : ByteArray := prog_3_method_1_code
def yX1_init : MethodName := ⟨RX1, "<init>", "()V"⟩
abbrev cX1_forget : ByteArray := prog_3_method_2_code
def yX1_forget : MethodName := ⟨RX1, "forget", "()V"⟩
abbrev cX1_trainAt : ByteArray := prog_3_method_3_code
def yX1_trainAt : MethodName := ⟨RX1, "trainAt", "(I)LSeatSwap$Train;"⟩
abbrev cX1_remember : ByteArray := prog_3_method_4_code
def yX1_remember : MethodName := ⟨RX1, "remember", "(LSeatSwap$Train;)V"⟩
abbrev cX1_bringBack : ByteArray := prog_3_method_5_code
def yX1_bringBack : MethodName := ⟨RX1, "bringBack", "(LSeatSwap$Train;)V"⟩
def RX2 : String := "SeatSwap$SetupReader"
def TX2 : u_T := fun k => match k with
  | 0 => ("SeatSwap$SetupReader", "tape", "LSeatSwap$Tape;", true)
  | 1 => ("SeatSwap$SetupReader", "who", "LSeatSwap$Traveller;", true)
  | 2 => ("SeatSwap$SetupReader", "start", "I", false)
  | 3 => ("SeatSwap$SetupReader", "end", "I", false)
  | 4 => ("SeatSwap$SetupReader", "kind", "I", false)
  | _ => ("SeatSwap$SetupReader", "wrong", "Z", false)
def tyX2 : Nat → FieldType := fun k => match k with
  | 0 => .object "SeatSwap$Tape"
  | 1 => .object "SeatSwap$Traveller"
  | 2 => .int
  | 3 => .int
  | 4 => .int
  | _ => .boolean
abbrev wsX20 : List Cond := u_ws RX2 TX2 6
theorem nmX2 : ∀ a, a < 6 → ∀ b, b < 6 → a ≠ b → (TX2 a).2.1 ≠ (TX2 b).2.1 := by decide +kernel
theorem tyX2_ok : ∀ k, k < 6 → parseFieldDescriptor (TX2 k).2.2.1 = some (tyX2 k) := by decide +kernel
abbrev cX2_init : ByteArray := prog_4_method_1_code
def yX2_init : MethodName := ⟨RX2, "<init>", "()V"⟩
abbrev cX2_kindOf : ByteArray := prog_4_method_2_code
def yX2_kindOf : MethodName := ⟨RX2, "kindOf", "(I)I"⟩
abbrev cX2_begin : ByteArray := prog_4_method_3_code
def yX2_begin : MethodName := ⟨RX2, "begin", "()V"⟩
abbrev cX2_nextToken : ByteArray := prog_4_method_4_code
def yX2_nextToken : MethodName := ⟨RX2, "nextToken", "()V"⟩
abbrev cX2_isSign : ByteArray := prog_4_method_5_code
def yX2_isSign : MethodName := ⟨RX2, "isSign", "(C)Z"⟩
abbrev cX2_isWord : ByteArray := prog_4_method_6_code
def yX2_isWord : MethodName := ⟨RX2, "isWord", "(Ljava/lang/String;)Z"⟩
abbrev cX2_isKeyword : ByteArray := prog_4_method_7_code
def yX2_isKeyword : MethodName := ⟨RX2, "isKeyword", "()Z"⟩
abbrev cX2_isName : ByteArray := prog_4_method_8_code
def yX2_isName : MethodName := ⟨RX2, "isName", "()Z"⟩
abbrev cX2_packedName : ByteArray := prog_4_method_9_code
def yX2_packedName : MethodName := ⟨RX2, "packedName", "()I"⟩
abbrev cX2_number : ByteArray := prog_4_method_10_code
def yX2_number : MethodName := ⟨RX2, "number", "()I"⟩
abbrev cX2_pass : ByteArray := prog_4_method_11_code
def yX2_pass : MethodName := ⟨RX2, "pass", "(Z)V"⟩
abbrev cX2_take : ByteArray := prog_4_method_12_code
def yX2_take : MethodName := ⟨RX2, "take", "(Ljava/lang/String;)V"⟩
abbrev cX2_takeIfThere : ByteArray := prog_4_method_13_code
def yX2_takeIfThere : MethodName := ⟨RX2, "takeIfThere", "(Ljava/lang/String;)Z"⟩
abbrev cX2_takeInt : ByteArray := prog_4_method_14_code
def yX2_takeInt : MethodName := ⟨RX2, "takeInt", "(II)I"⟩
abbrev cX2_takeLike : ByteArray := prog_4_method_15_code
def yX2_takeLike : MethodName := ⟨RX2, "takeLike", "()I"⟩
abbrev cX2_takeFreeSeat : ByteArray := prog_4_method_16_code
def yX2_takeFreeSeat : MethodName := ⟨RX2, "takeFreeSeat", "(LSeatSwap$Train;)I"⟩
abbrev cX2_takeName : ByteArray := prog_4_method_17_code
def yX2_takeName : MethodName := ⟨RX2, "takeName", "()I"⟩
abbrev cX2_tapeIsName : ByteArray := prog_4_method_18_code
def yX2_tapeIsName : MethodName := ⟨RX2, "tapeIsName", "()Z"⟩
abbrev cX2_nameOnTape : ByteArray := prog_4_method_19_code
def yX2_nameOnTape : MethodName := ⟨RX2, "nameOnTape", "()I"⟩
abbrev cX2_readSetup : ByteArray := prog_4_method_20_code
def yX2_readSetup : MethodName := ⟨RX2, "readSetup", "(LSeatSwap$Train;)Z"⟩
abbrev cX2_readTraveller : ByteArray := prog_4_method_21_code
def yX2_readTraveller : MethodName := ⟨RX2, "readTraveller", "(LSeatSwap$Train;)V"⟩
def RX3 : String := "SeatSwap$SetupWriter"
def TX3 : u_T := fun k => match k with
  | 0 => ("SeatSwap$SetupWriter", "length", "I", false)
  | 1 => ("SeatSwap$SetupWriter", "wanted", "I", false)
  | _ => ("SeatSwap$SetupWriter", "found", "I", false)
def tyX3 : Nat → FieldType := fun k => match k with
  | 0 => .int
  | 1 => .int
  | _ => .int
abbrev wsX30 : List Cond := u_ws RX3 TX3 3
theorem nmX3 : ∀ a, a < 3 → ∀ b, b < 3 → a ≠ b → (TX3 a).2.1 ≠ (TX3 b).2.1 := by decide +kernel
theorem tyX3_ok : ∀ k, k < 3 → parseFieldDescriptor (TX3 k).2.2.1 = some (tyX3 k) := by decide +kernel
abbrev cX3_init : ByteArray := prog_5_method_1_code
def yX3_init : MethodName := ⟨RX3, "<init>", "()V"⟩
abbrev cX3_write : ByteArray := prog_5_method_2_code
def yX3_write : MethodName := ⟨RX3, "write", "(LSeatSwap$Train;I)V"⟩
abbrev cX3_putTraveller : ByteArray := prog_5_method_3_code
def yX3_putTraveller : MethodName := ⟨RX3, "putTraveller", "(LSeatSwap$Traveller;)V"⟩
abbrev cX3_putPart : ByteArray := prog_5_method_4_code
def yX3_putPart : MethodName := ⟨RX3, "putPart", "(Ljava/lang/String;II)V"⟩
abbrev cX3_putLike : ByteArray := prog_5_method_5_code
def yX3_putLike : MethodName := ⟨RX3, "putLike", "(Ljava/lang/String;I)V"⟩
abbrev cX3_putNumber : ByteArray := prog_5_method_6_code
def yX3_putNumber : MethodName := ⟨RX3, "putNumber", "(I)V"⟩
abbrev cX3_putText : ByteArray := prog_5_method_7_code
def yX3_putText : MethodName := ⟨RX3, "putText", "(Ljava/lang/String;)V"⟩
abbrev cX3_put : ByteArray := prog_5_method_8_code
def yX3_put : MethodName := ⟨RX3, "put", "(I)V"⟩
def RX4 : String := "SeatSwap$Tape"
def TX4 : u_T := fun k => match k with
  | 0 => ("SeatSwap$Tape", "bytes", "[I", true)
  | _ => ("SeatSwap$Tape", "length", "I", false)
def tyX4 : Nat → FieldType := fun k => match k with
  | 0 => .array .int
  | _ => .int
abbrev wsX40 : List Cond := u_ws RX4 TX4 2
theorem nmX4 : ∀ a, a < 2 → ∀ b, b < 2 → a ≠ b → (TX4 a).2.1 ≠ (TX4 b).2.1 := by decide +kernel
theorem tyX4_ok : ∀ k, k < 2 → parseFieldDescriptor (TX4 k).2.2.1 = some (tyX4 k) := by decide +kernel
abbrev cX4_init : ByteArray := prog_6_method_1_code
def yX4_init : MethodName := ⟨RX4, "<init>", "()V"⟩
abbrev cX4_hasRoom : ByteArray := prog_6_method_2_code
def yX4_hasRoom : MethodName := ⟨RX4, "hasRoom", "()Z"⟩
abbrev cX4_putFour : ByteArray := prog_6_method_3_code
def yX4_putFour : MethodName := ⟨RX4, "putFour", "(I)V"⟩
abbrev cX4_put : ByteArray := prog_6_method_4_code
def yX4_put : MethodName := ⟨RX4, "put", "(I)V"⟩
abbrev cX4_byteAt : ByteArray := prog_6_method_5_code
def yX4_byteAt : MethodName := ⟨RX4, "byteAt", "(I)I"⟩
def RX5 : String := "SeatSwap$Train"
def TX5 : u_T := fun k => match k with
  | 0 => ("SeatSwap$Train", "travellers", "[LSeatSwap$Traveller;", true)
  | 1 => ("SeatSwap$Train", "nobody", "LSeatSwap$Traveller;", true)
  | 2 => ("SeatSwap$Train", "members", "[I", true)
  | 3 => ("SeatSwap$Train", "log", "LSeatSwap$Log;", true)
  | 4 => ("SeatSwap$Train", "rows", "I", false)
  | 5 => ("SeatSwap$Train", "first", "I", false)
  | 6 => ("SeatSwap$Train", "time", "I", false)
  | 7 => ("SeatSwap$Train", "count", "I", false)
  | 8 => ("SeatSwap$Train", "swaps", "I", false)
  | 9 => ("SeatSwap$Train", "moves", "I", false)
  | 10 => ("SeatSwap$Train", "rings", "I", false)
  | 11 => ("SeatSwap$Train", "paid", "I", false)
  | _ => ("SeatSwap$Train", "gone", "I", false)
def tyX5 : Nat → FieldType := fun k => match k with
  | 0 => .array (.object "SeatSwap$Traveller")
  | 1 => .object "SeatSwap$Traveller"
  | 2 => .array .int
  | 3 => .object "SeatSwap$Log"
  | 4 => .int
  | 5 => .int
  | 6 => .int
  | 7 => .int
  | 8 => .int
  | 9 => .int
  | 10 => .int
  | 11 => .int
  | _ => .int
abbrev wsX50 : List Cond := u_ws RX5 TX5 13
theorem nmX5 : ∀ a, a < 13 → ∀ b, b < 13 → a ≠ b → (TX5 a).2.1 ≠ (TX5 b).2.1 := by decide +kernel
theorem tyX5_ok : ∀ k, k < 13 → parseFieldDescriptor (TX5 k).2.2.1 = some (tyX5 k) := by decide +kernel
abbrev cX5_init : ByteArray := prog_7_method_1_code
def yX5_init : MethodName := ⟨RX5, "<init>", "()V"⟩
abbrev cX5_clear : ByteArray := prog_7_method_2_code
def yX5_clear : MethodName := ⟨RX5, "clear", "()V"⟩
abbrev cX5_copyFrom : ByteArray := prog_7_method_3_code
def yX5_copyFrom : MethodName := ⟨RX5, "copyFrom", "(LSeatSwap$Train;)V"⟩
abbrev cX5_traveller : ByteArray := prog_7_method_4_code
def yX5_traveller : MethodName := ⟨RX5, "traveller", "(I)LSeatSwap$Traveller;"⟩
abbrev cX5_seats : ByteArray := prog_7_method_5_code
def yX5_seats : MethodName := ⟨RX5, "seats", "()I"⟩
abbrev cX5_tables : ByteArray := prog_7_method_6_code
def yX5_tables : MethodName := ⟨RX5, "tables", "()I"⟩
abbrev cX5_isSeat : ByteArray := prog_7_method_7_code
def yX5_isSeat : MethodName := ⟨RX5, "isSeat", "(I)Z"⟩
abbrev cX5_isTraveller : ByteArray := prog_7_method_8_code
def yX5_isTraveller : MethodName := ⟨RX5, "isTraveller", "(I)Z"⟩
abbrev cX5_isInRange : ByteArray := prog_7_method_9_code
def yX5_isInRange : MethodName := ⟨RX5, "isInRange", "(II)Z"⟩
abbrev cX5_whoHas : ByteArray := prog_7_method_10_code
def yX5_whoHas : MethodName := ⟨RX5, "whoHas", "(I)I"⟩
abbrev cX5_isFree : ByteArray := prog_7_method_11_code
def yX5_isFree : MethodName := ⟨RX5, "isFree", "(I)Z"⟩
abbrev cX5_allows : ByteArray := prog_7_method_12_code
def yX5_allows : MethodName := ⟨RX5, "allows", "(II)Z"⟩
abbrev cX5_maySit : ByteArray := prog_7_method_13_code
def yX5_maySit : MethodName := ⟨RX5, "maySit", "(II)Z"⟩
abbrev cX5_barredBy : ByteArray := prog_7_method_14_code
def yX5_barredBy : MethodName := ⟨RX5, "barredBy", "(I)I"⟩
abbrev cX5_membersAt : ByteArray := prog_7_method_15_code
def yX5_membersAt : MethodName := ⟨RX5, "membersAt", "(II)I"⟩
abbrev cX5_countAtTable : ByteArray := prog_7_method_16_code
def yX5_countAtTable : MethodName := ⟨RX5, "countAtTable", "(LSeatSwap$Traveller;I)V"⟩
abbrev cX5_admit : ByteArray := prog_7_method_17_code
def yX5_admit : MethodName := ⟨RX5, "\x61dmit", "(LSeatSwap$Traveller;)V"⟩
abbrev cX5_letOff : ByteArray := prog_7_method_18_code
def yX5_letOff : MethodName := ⟨RX5, "letOff", "(I)V"⟩
abbrev cX5_goOn : ByteArray := prog_7_method_19_code
def yX5_goOn : MethodName := ⟨RX5, "goOn", "()V"⟩
abbrev cX5_joyIn : ByteArray := prog_7_method_20_code
def yX5_joyIn : MethodName := ⟨RX5, "joyIn", "(II)I"⟩
abbrev cX5_joyOf : ByteArray := prog_7_method_21_code
def yX5_joyOf : MethodName := ⟨RX5, "joyOf", "(I)I"⟩
abbrev cX5_relativesAt : ByteArray := prog_7_method_22_code
def yX5_relativesAt : MethodName := ⟨RX5, "relativesAt", "(LSeatSwap$Traveller;I)I"⟩
abbrev cX5_looksForward : ByteArray := prog_7_method_23_code
def yX5_looksForward : MethodName := ⟨RX5, "looksForward", "(I)Z"⟩
abbrev cX5_sumOfJoys : ByteArray := prog_7_method_24_code
def yX5_sumOfJoys : MethodName := ⟨RX5, "sumOfJoys", "()I"⟩
abbrev cX5_grumblers : ByteArray := prog_7_method_25_code
def yX5_grumblers : MethodName := ⟨RX5, "grumblers", "()I"⟩
abbrev cX5_placeOf : ByteArray := prog_7_method_26_code
def yX5_placeOf : MethodName := ⟨RX5, "placeOf", "(I)I"⟩
abbrev cX5_whoIsAtPlace : ByteArray := prog_7_method_27_code
def yX5_whoIsAtPlace : MethodName := ⟨RX5, "whoIsAtPlace", "(I)I"⟩
abbrev cX5_isAt : ByteArray := prog_7_method_28_code
def yX5_isAt : MethodName := ⟨RX5, "isAt", "(II)Z"⟩
abbrev cX5_travellersAt : ByteArray := prog_7_method_29_code
def yX5_travellersAt : MethodName := ⟨RX5, "travellersAt", "(I)I"⟩
abbrev cX5_grumblersAt : ByteArray := prog_7_method_30_code
def yX5_grumblersAt : MethodName := ⟨RX5, "grumblersAt", "(I)I"⟩
abbrev cX5_sumOfJoysAt : ByteArray := prog_7_method_31_code
def yX5_sumOfJoysAt : MethodName := ⟨RX5, "sumOfJoysAt", "(I)I"⟩
abbrev cX5_greatestFamilyAt : ByteArray := prog_7_method_32_code
def yX5_greatestFamilyAt : MethodName := ⟨RX5, "greatestFamilyAt", "(I)I"⟩
abbrev cX5_membersOf : ByteArray := prog_7_method_33_code
def yX5_membersOf : MethodName := ⟨RX5, "membersOf", "(I)I"⟩
abbrev cX5_tablesOf : ByteArray := prog_7_method_34_code
def yX5_tablesOf : MethodName := ⟨RX5, "tablesOf", "(I)I"⟩
abbrev cX5_sumOfJoysOf : ByteArray := prog_7_method_35_code
def yX5_sumOfJoysOf : MethodName := ⟨RX5, "sumOfJoysOf", "(I)I"⟩
abbrev cX5_families : ByteArray := prog_7_method_36_code
def yX5_families : MethodName := ⟨RX5, "families", "()I"⟩
abbrev cX5_sumOfSweets : ByteArray := prog_7_method_37_code
def yX5_sumOfSweets : MethodName := ⟨RX5, "sumOfSweets", "()I"⟩
abbrev cX5_sitDown : ByteArray := prog_7_method_38_code
def yX5_sitDown : MethodName := ⟨RX5, "sitDown", "(II)V"⟩
abbrev cX5_exchangeSeats : ByteArray := prog_7_method_39_code
def yX5_exchangeSeats : MethodName := ⟨RX5, "exchangeSeats", "(II)V"⟩
abbrev cX5_passSeats : ByteArray := prog_7_method_40_code
def yX5_passSeats : MethodName := ⟨RX5, "passSeats", "(III)V"⟩
abbrev cX5_riseBySwap : ByteArray := prog_7_method_41_code
def yX5_riseBySwap : MethodName := ⟨RX5, "riseBySwap", "(II)I"⟩
abbrev cX5_sumIfSwapped : ByteArray := prog_7_method_42_code
def yX5_sumIfSwapped : MethodName := ⟨RX5, "sumIfSwapped", "(II)I"⟩
abbrev cX5_swapReason : ByteArray := prog_7_method_43_code
def yX5_swapReason : MethodName := ⟨RX5, "swapReason", "(III)I"⟩
abbrev cX5_doSwap : ByteArray := prog_7_method_44_code
def yX5_doSwap : MethodName := ⟨RX5, "doSwap", "(III)V"⟩
abbrev cX5_moveReason : ByteArray := prog_7_method_45_code
def yX5_moveReason : MethodName := ⟨RX5, "moveReason", "(II)I"⟩
abbrev cX5_doMove : ByteArray := prog_7_method_46_code
def yX5_doMove : MethodName := ⟨RX5, "doMove", "(II)V"⟩
abbrev cX5_ringReason : ByteArray := prog_7_method_47_code
def yX5_ringReason : MethodName := ⟨RX5, "ringReason", "(III)I"⟩
abbrev cX5_riseByRing : ByteArray := prog_7_method_48_code
def yX5_riseByRing : MethodName := ⟨RX5, "riseByRing", "(III)I"⟩
abbrev cX5_doRing : ByteArray := prog_7_method_49_code
def yX5_doRing : MethodName := ⟨RX5, "doRing", "(III)V"⟩
abbrev cX5_risingRings : ByteArray := prog_7_method_50_code
def yX5_risingRings : MethodName := ⟨RX5, "risingRings", "()I"⟩
abbrev cX5_bestSeatFor : ByteArray := prog_7_method_51_code
def yX5_bestSeatFor : MethodName := ⟨RX5, "bestSeatFor", "(I)I"⟩
abbrev cX5_partnerFor : ByteArray := prog_7_method_52_code
def yX5_partnerFor : MethodName := ⟨RX5, "partnerFor", "(I)I"⟩
abbrev cX5_settleOnce : ByteArray := prog_7_method_53_code
def yX5_settleOnce : MethodName := ⟨RX5, "settleOnce", "()Z"⟩
abbrev cX5_planSign : ByteArray := prog_7_method_54_code
def yX5_planSign : MethodName := ⟨RX5, "planSign", "(II)I"⟩
abbrev cX5_seatSign : ByteArray := prog_7_method_55_code
def yX5_seatSign : MethodName := ⟨RX5, "seatSign", "(I)I"⟩
def RX6 : String := "SeatSwap$Traveller"
def TX6 : u_T := fun k => match k with
  | 0 => ("SeatSwap$Traveller", "name", "I", false)
  | 1 => ("SeatSwap$Traveller", "seat", "I", false)
  | 2 => ("SeatSwap$Traveller", "ticket", "I", false)
  | 3 => ("SeatSwap$Traveller", "family", "I", false)
  | 4 => ("SeatSwap$Traveller", "window", "I", false)
  | 5 => ("SeatSwap$Traveller", "ahead", "I", false)
  | 6 => ("SeatSwap$Traveller", "row", "I", false)
  | 7 => ("SeatSwap$Traveller", "pulls", "I", false)
  | 8 => ("SeatSwap$Traveller", "sweets", "I", false)
  | _ => ("SeatSwap$Traveller", "stop", "I", false)
def tyX6 : Nat → FieldType := fun k => match k with
  | 0 => .int
  | 1 => .int
  | 2 => .int
  | 3 => .int
  | 4 => .int
  | 5 => .int
  | 6 => .int
  | 7 => .int
  | 8 => .int
  | _ => .int
abbrev wsX60 : List Cond := u_ws RX6 TX6 10
theorem nmX6 : ∀ a, a < 10 → ∀ b, b < 10 → a ≠ b → (TX6 a).2.1 ≠ (TX6 b).2.1 := by decide +kernel
theorem tyX6_ok : ∀ k, k < 10 → parseFieldDescriptor (TX6 k).2.2.1 = some (tyX6 k) := by decide +kernel
abbrev cX6_init : ByteArray := prog_8_method_1_code
def yX6_init : MethodName := ⟨RX6, "<init>", "()V"⟩
abbrev cX6_clear : ByteArray := prog_8_method_2_code
def yX6_clear : MethodName := ⟨RX6, "clear", "()V"⟩
abbrev cX6_copyFrom : ByteArray := prog_8_method_3_code
def yX6_copyFrom : MethodName := ⟨RX6, "copyFrom", "(LSeatSwap$Traveller;)V"⟩
abbrev cX6_settable : ByteArray := prog_8_method_4_code
def yX6_settable : MethodName := ⟨RX6, "settable", "(I)I"⟩
abbrev cX6_change : ByteArray := prog_8_method_5_code
def yX6_change : MethodName := ⟨RX6, "change", "(II)V"⟩
abbrev cX6_letterAt : ByteArray := prog_8_method_6_code
def yX6_letterAt : MethodName := ⟨RX6, "letterAt", "(I)I"⟩
def RX7 : String := "SeatSwap"
def TX7 : u_T := fun k => match k with
  | 0 => ("SeatSwap", "tape", "LSeatSwap$Tape;", true)
  | 1 => ("SeatSwap", "reader", "LSeatSwap$SetupReader;", true)
  | 2 => ("SeatSwap", "writer", "LSeatSwap$SetupWriter;", true)
  | 3 => ("SeatSwap", "train", "LSeatSwap$Train;", true)
  | 4 => ("SeatSwap", "draft", "LSeatSwap$Train;", true)
  | 5 => ("SeatSwap", "guest", "LSeatSwap$Traveller;", true)
  | 6 => ("SeatSwap", "slots", "[LSeatSwap$Train;", true)
  | 7 => ("SeatSwap", "filled", "[Z", true)
  | 8 => ("SeatSwap", "past", "LSeatSwap$Past;", true)
  | _ => ("SeatSwap", "errorAt", "I", false)
def tyX7 : Nat → FieldType := fun k => match k with
  | 0 => .object "SeatSwap$Tape"
  | 1 => .object "SeatSwap$SetupReader"
  | 2 => .object "SeatSwap$SetupWriter"
  | 3 => .object "SeatSwap$Train"
  | 4 => .object "SeatSwap$Train"
  | 5 => .object "SeatSwap$Traveller"
  | 6 => .array (.object "SeatSwap$Train")
  | 7 => .array .boolean
  | 8 => .object "SeatSwap$Past"
  | _ => .int
abbrev wsX70 : List Cond := u_ws RX7 TX7 10
theorem nmX7 : ∀ a, a < 10 → ∀ b, b < 10 → a ≠ b → (TX7 a).2.1 ≠ (TX7 b).2.1 := by decide +kernel
theorem tyX7_ok : ∀ k, k < 10 → parseFieldDescriptor (TX7 k).2.2.1 = some (tyX7 k) := by decide +kernel
abbrev cX7_init : ByteArray := prog_1_method_1_code
def yX7_init : MethodName := ⟨RX7, "<init>", "()V"⟩
abbrev cX7_append : ByteArray := prog_1_method_2_code
def yX7_append : MethodName := ⟨RX7, "append", "(IIIII)I"⟩
abbrev cX7_truncate : ByteArray := prog_1_method_3_code
def yX7_truncate : MethodName := ⟨RX7, "truncate", "(I)I"⟩
abbrev cX7_load : ByteArray := prog_1_method_4_code
def yX7_load : MethodName := ⟨RX7, "load", "()I"⟩
abbrev cX7_errorPosition : ByteArray := prog_1_method_5_code
def yX7_errorPosition : MethodName := ⟨RX7, "errorPosition", "()I"⟩
abbrev cX7_come : ByteArray := prog_1_method_6_code
def yX7_come : MethodName := ⟨RX7, "come", "(IIIII)I"⟩
abbrev cX7_set : ByteArray := prog_1_method_7_code
def yX7_set : MethodName := ⟨RX7, "set", "(III)I"⟩
abbrev cX7_first : ByteArray := prog_1_method_8_code
def yX7_first : MethodName := ⟨RX7, "first", "(I)I"⟩
abbrev cX7_swap : ByteArray := prog_1_method_9_code
def yX7_swap : MethodName := ⟨RX7, "swap", "(III)I"⟩
abbrev cX7_move : ByteArray := prog_1_method_10_code
def yX7_move : MethodName := ⟨RX7, "move", "(II)I"⟩
abbrev cX7_ring : ByteArray := prog_1_method_11_code
def yX7_ring : MethodName := ⟨RX7, "ring", "(III)I"⟩
abbrev cX7_settle : ByteArray := prog_1_method_12_code
def yX7_settle : MethodName := ⟨RX7, "settle", "()I"⟩
abbrev cX7_station : ByteArray := prog_1_method_13_code
def yX7_station : MethodName := ⟨RX7, "station", "(I)I"⟩
abbrev cX7_keep : ByteArray := prog_1_method_14_code
def yX7_keep : MethodName := ⟨RX7, "keep", "(I)I"⟩
abbrev cX7_restore : ByteArray := prog_1_method_15_code
def yX7_restore : MethodName := ⟨RX7, "restore", "(I)I"⟩
abbrev cX7_undo : ByteArray := prog_1_method_16_code
def yX7_undo : MethodName := ⟨RX7, "undo", "()I"⟩
abbrev cX7_value : ByteArray := prog_1_method_17_code
def yX7_value : MethodName := ⟨RX7, "value", "(I)I"⟩
abbrev cX7_of : ByteArray := prog_1_method_18_code
def yX7_of : MethodName := ⟨RX7, "of", "(II)I"⟩
abbrev cX7_letter : ByteArray := prog_1_method_19_code
def yX7_letter : MethodName := ⟨RX7, "letter", "(II)I"⟩
abbrev cX7_at : ByteArray := prog_1_method_20_code
def yX7_at : MethodName := ⟨RX7, "at", "(I)I"⟩
abbrev cX7_table : ByteArray := prog_1_method_21_code
def yX7_table : MethodName := ⟨RX7, "table", "(II)I"⟩
abbrev cX7_family : ByteArray := prog_1_method_22_code
def yX7_family : MethodName := ⟨RX7, "family", "(II)I"⟩
abbrev cX7_ranked : ByteArray := prog_1_method_23_code
def yX7_ranked : MethodName := ⟨RX7, "ranked", "(I)I"⟩
abbrev cX7_why : ByteArray := prog_1_method_24_code
def yX7_why : MethodName := ⟨RX7, "why", "(III)I"⟩
abbrev cX7_whyMove : ByteArray := prog_1_method_25_code
def yX7_whyMove : MethodName := ⟨RX7, "whyMove", "(II)I"⟩
abbrev cX7_joyAt : ByteArray := prog_1_method_26_code
def yX7_joyAt : MethodName := ⟨RX7, "joyAt", "(II)I"⟩
abbrev cX7_ifSwapped : ByteArray := prog_1_method_27_code
def yX7_ifSwapped : MethodName := ⟨RX7, "ifSwapped", "(III)I"⟩
abbrev cX7_leastPrice : ByteArray := prog_1_method_28_code
def yX7_leastPrice : MethodName := ⟨RX7, "leastPrice", "(II)I"⟩
abbrev cX7_bestSeat : ByteArray := prog_1_method_29_code
def yX7_bestSeat : MethodName := ⟨RX7, "bestSeat", "(I)I"⟩
abbrev cX7_partner : ByteArray := prog_1_method_30_code
def yX7_partner : MethodName := ⟨RX7, "partner", "(I)I"⟩
abbrev cX7_rings : ByteArray := prog_1_method_31_code
def yX7_rings : MethodName := ⟨RX7, "rings", "()I"⟩
abbrev cX7_ifSettled : ByteArray := prog_1_method_32_code
def yX7_ifSettled : MethodName := ⟨RX7, "ifSettled", "(I)I"⟩
abbrev cX7_ifFirst : ByteArray := prog_1_method_33_code
def yX7_ifFirst : MethodName := ⟨RX7, "ifFirst", "(I)I"⟩
abbrev cX7_log : ByteArray := prog_1_method_34_code
def yX7_log : MethodName := ⟨RX7, "log", "(II)I"⟩
abbrev cX7_full : ByteArray := prog_1_method_35_code
def yX7_full : MethodName := ⟨RX7, "full", "()F"⟩
abbrev cX7_meanJoy : ByteArray := prog_1_method_36_code
def yX7_meanJoy : MethodName := ⟨RX7, "meanJoy", "()D"⟩
abbrev cX7_planLength : ByteArray := prog_1_method_37_code
def yX7_planLength : MethodName := ⟨RX7, "planLength", "()I"⟩
abbrev cX7_planByte : ByteArray := prog_1_method_38_code
def yX7_planByte : MethodName := ⟨RX7, "planByte", "(I)I"⟩
abbrev cX7_setupLength : ByteArray := prog_1_method_39_code
def yX7_setupLength : MethodName := ⟨RX7, "setupLength", "()I"⟩
abbrev cX7_setupByte : ByteArray := prog_1_method_40_code
def yX7_setupByte : MethodName := ⟨RX7, "setupByte", "(I)I"⟩
abbrev cX7_isIn : ByteArray := prog_1_method_41_code
def yX7_isIn : MethodName := ⟨RX7, "isIn", "(III)Z"⟩
abbrev cX7_refusal : ByteArray := prog_1_method_42_code
def yX7_refusal : MethodName := ⟨RX7, "refusal", "(I)I"⟩
abbrev cX7_arePair : ByteArray := prog_1_method_43_code
def yX7_arePair : MethodName := ⟨RX7, "arePair", "(II)Z"⟩
abbrev cX7_settleDraft : ByteArray := prog_1_method_44_code
def yX7_settleDraft : MethodName := ⟨RX7, "settleDraft", "()I"⟩
def RX8 : String := "SeatSwapModel"
def TX8 : u_T := fun k => match k with
  | 0 => ("SeatSwapModel", "now", "[I", true)
  | 1 => ("SeatSwapModel", "draft", "[I", true)
  | 2 => ("SeatSwapModel", "spare", "[I", true)
  | 3 => ("SeatSwapModel", "earlier", "[I", true)
  | 4 => ("SeatSwapModel", "slots", "[I", true)
  | 5 => ("SeatSwapModel", "isKept", "[Z", true)
  | 6 => ("SeatSwapModel", "undos", "I", false)
  | 7 => ("SeatSwapModel", "tape", "[I", true)
  | 8 => ("SeatSwapModel", "length", "I", false)
  | 9 => ("SeatSwapModel", "error", "I", false)
  | 10 => ("SeatSwapModel", "thrown", "I", false)
  | 11 => ("SeatSwapModel", "place", "I", false)
  | 12 => ("SeatSwapModel", "begin", "I", false)
  | 13 => ("SeatSwapModel", "kind", "I", false)
  | 14 => ("SeatSwapModel", "value", "I", false)
  | 15 => ("SeatSwapModel", "fails", "Z", false)
  | 16 => ("SeatSwapModel", "out", "[I", true)
  | _ => ("SeatSwapModel", "written", "I", false)
def tyX8 : Nat → FieldType := fun k => match k with
  | 0 => .array .int
  | 1 => .array .int
  | 2 => .array .int
  | 3 => .array .int
  | 4 => .array .int
  | 5 => .array .boolean
  | 6 => .int
  | 7 => .array .int
  | 8 => .int
  | 9 => .int
  | 10 => .int
  | 11 => .int
  | 12 => .int
  | 13 => .int
  | 14 => .int
  | 15 => .boolean
  | 16 => .array .int
  | _ => .int
abbrev wsX80 : List Cond := u_ws RX8 TX8 18
theorem nmX8 : ∀ a, a < 18 → ∀ b, b < 18 → a ≠ b → (TX8 a).2.1 ≠ (TX8 b).2.1 := by decide +kernel
theorem tyX8_ok : ∀ k, k < 18 → parseFieldDescriptor (TX8 k).2.2.1 = some (tyX8 k) := by decide +kernel
abbrev cX8_init : ByteArray := prog_10_method_1_code
def yX8_init : MethodName := ⟨RX8, "<init>", "()V"⟩
abbrev cX8_in : ByteArray := prog_10_method_3_code
def yX8_in : MethodName := ⟨RX8, "in", "(III)Z"⟩
abbrev cX8_layRow : ByteArray := prog_10_method_4_code
def yX8_layRow : MethodName := ⟨RX8, "layRow", "([II[II)V"⟩
abbrev cX8_takesSpare : ByteArray := prog_10_method_5_code
def yX8_takesSpare : MethodName := ⟨RX8, "takesSpare", "()V"⟩
abbrev cX8_numberAt : ByteArray := prog_10_method_6_code
def yX8_numberAt : MethodName := ⟨RX8, "numberAt", "(II)I"⟩
abbrev cX8_isTraveller : ByteArray := prog_10_method_7_code
def yX8_isTraveller : MethodName := ⟨RX8, "isTraveller", "(I)Z"⟩
abbrev cX8_isSeat : ByteArray := prog_10_method_8_code
def yX8_isSeat : MethodName := ⟨RX8, "isSeat", "(I)Z"⟩
abbrev cX8_isPair : ByteArray := prog_10_method_9_code
def yX8_isPair : MethodName := ⟨RX8, "isPair", "(II)Z"⟩
abbrev cX8_isPaid : ByteArray := prog_10_method_10_code
def yX8_isPaid : MethodName := ⟨RX8, "isPaid", "(I)Z"⟩
abbrev cX8_rowOf : ByteArray := prog_10_method_11_code
def yX8_rowOf : MethodName := ⟨RX8, "rowOf", "(I)I"⟩
abbrev cX8_tableOf : ByteArray := prog_10_method_12_code
def yX8_tableOf : MethodName := ⟨RX8, "tableOf", "(I)I"⟩
abbrev cX8_isWindow : ByteArray := prog_10_method_13_code
def yX8_isWindow : MethodName := ⟨RX8, "isWindow", "(I)Z"⟩
abbrev cX8_isForward : ByteArray := prog_10_method_14_code
def yX8_isForward : MethodName := ⟨RX8, "isForward", "(I)Z"⟩
abbrev cX8_tablesOf : ByteArray := prog_10_method_15_code
def yX8_tablesOf : MethodName := ⟨RX8, "tablesOf", "([I)I"⟩
abbrev cX8_whoHas : ByteArray := prog_10_method_16_code
def yX8_whoHas : MethodName := ⟨RX8, "whoHas", "([II)I"⟩
abbrev cX8_mayUse : ByteArray := prog_10_method_17_code
def yX8_mayUse : MethodName := ⟨RX8, "mayUse", "(III)Z"⟩
abbrev cX8_maySit : ByteArray := prog_10_method_18_code
def yX8_maySit : MethodName := ⟨RX8, "maySit", "([III)Z"⟩
abbrev cX8_kinAt : ByteArray := prog_10_method_19_code
def yX8_kinAt : MethodName := ⟨RX8, "kinAt", "([III)I"⟩
abbrev cX8_joyIn : ByteArray := prog_10_method_20_code
def yX8_joyIn : MethodName := ⟨RX8, "joyIn", "([III)I"⟩
abbrev cX8_joyOf : ByteArray := prog_10_method_21_code
def yX8_joyOf : MethodName := ⟨RX8, "joyOf", "([II)I"⟩
abbrev cX8_joyAll : ByteArray := prog_10_method_22_code
def yX8_joyAll : MethodName := ⟨RX8, "joyAll", "([I)I"⟩
abbrev cX8_grumblers : ByteArray := prog_10_method_23_code
def yX8_grumblers : MethodName := ⟨RX8, "grumblers", "([I)I"⟩
abbrev cX8_exchanges : ByteArray := prog_10_method_24_code
def yX8_exchanges : MethodName := ⟨RX8, "exchanges", "([III)V"⟩
abbrev cX8_turns : ByteArray := prog_10_method_25_code
def yX8_turns : MethodName := ⟨RX8, "turns", "([IIII)V"⟩
abbrev cX8_riseBySwap : ByteArray := prog_10_method_26_code
def yX8_riseBySwap : MethodName := ⟨RX8, "riseBySwap", "([IIII)I"⟩
abbrev cX8_whySwapped : ByteArray := prog_10_method_27_code
def yX8_whySwapped : MethodName := ⟨RX8, "whySwapped", "([IIII)I"⟩
abbrev cX8_whyMoved : ByteArray := prog_10_method_28_code
def yX8_whyMoved : MethodName := ⟨RX8, "whyMoved", "([III)I"⟩
abbrev cX8_riseByRing : ByteArray := prog_10_method_29_code
def yX8_riseByRing : MethodName := ⟨RX8, "riseByRing", "([IIIII)I"⟩
abbrev cX8_whyRing : ByteArray := prog_10_method_30_code
def yX8_whyRing : MethodName := ⟨RX8, "whyRing", "([IIII)I"⟩
abbrev cX8_riseOfRing : ByteArray := prog_10_method_31_code
def yX8_riseOfRing : MethodName := ⟨RX8, "riseOfRing", "([IIII)I"⟩
abbrev cX8_riseOfAll : ByteArray := prog_10_method_32_code
def yX8_riseOfAll : MethodName := ⟨RX8, "riseOfAll", "([III)I"⟩
abbrev cX8_bestSwap : ByteArray := prog_10_method_33_code
def yX8_bestSwap : MethodName := ⟨RX8, "bestSwap", "([I)I"⟩
abbrev cX8_settles : ByteArray := prog_10_method_34_code
def yX8_settles : MethodName := ⟨RX8, "settles", "([I)I"⟩
abbrev cX8_append : ByteArray := prog_10_method_35_code
def yX8_append : MethodName := ⟨RX8, "append", "(IIIII)I"⟩
abbrev cX8_truncate : ByteArray := prog_10_method_36_code
def yX8_truncate : MethodName := ⟨RX8, "truncate", "(I)I"⟩
abbrev cX8_errorPosition : ByteArray := prog_10_method_37_code
def yX8_errorPosition : MethodName := ⟨RX8, "errorPosition", "()I"⟩
abbrev cX8_isSmall : ByteArray := prog_10_method_38_code
def yX8_isSmall : MethodName := ⟨RX8, "isSmall", "(I)Z"⟩
abbrev cX8_isDigit : ByteArray := prog_10_method_39_code
def yX8_isDigit : MethodName := ⟨RX8, "isDigit", "(I)Z"⟩
abbrev cX8_next : ByteArray := prog_10_method_40_code
def yX8_next : MethodName := ⟨RX8, "next", "()V"⟩
abbrev cX8_nextWord : ByteArray := prog_10_method_41_code
def yX8_nextWord : MethodName := ⟨RX8, "nextWord", "()V"⟩
abbrev cX8_nextNumber : ByteArray := prog_10_method_42_code
def yX8_nextNumber : MethodName := ⟨RX8, "nextNumber", "()V"⟩
abbrev cX8_is : ByteArray := prog_10_method_43_code
def yX8_is : MethodName := ⟨RX8, "is", "(I)Z"⟩
abbrev cX8_isKeyword : ByteArray := prog_10_method_44_code
def yX8_isKeyword : MethodName := ⟨RX8, "isKeyword", "(I)Z"⟩
abbrev cX8_takes : ByteArray := prog_10_method_45_code
def yX8_takes : MethodName := ⟨RX8, "takes", "(Z)Z"⟩
abbrev cX8_takesNumber : ByteArray := prog_10_method_46_code
def yX8_takesNumber : MethodName := ⟨RX8, "takesNumber", "(II)I"⟩
abbrev cX8_takesWord : ByteArray := prog_10_method_47_code
def yX8_takesWord : MethodName := ⟨RX8, "takesWord", "(I)Z"⟩
abbrev cX8_takesLike : ByteArray := prog_10_method_48_code
def yX8_takesLike : MethodName := ⟨RX8, "takesLike", "()I"⟩
abbrev cX8_isName : ByteArray := prog_10_method_49_code
def yX8_isName : MethodName := ⟨RX8, "isName", "(I)Z"⟩
abbrev cX8_nameSize : ByteArray := prog_10_method_50_code
def yX8_nameSize : MethodName := ⟨RX8, "nameSize", "(I)I"⟩
abbrev cX8_letterOf : ByteArray := prog_10_method_51_code
def yX8_letterOf : MethodName := ⟨RX8, "letterOf", "(II)I"⟩
abbrev cX8_starts : ByteArray := prog_10_method_52_code
def yX8_starts : MethodName := ⟨RX8, "starts", "([III)V"⟩
abbrev cX8_readSeat : ByteArray := prog_10_method_53_code
def yX8_readSeat : MethodName := ⟨RX8, "readSeat", "()V"⟩
abbrev cX8_load : ByteArray := prog_10_method_54_code
def yX8_load : MethodName := ⟨RX8, "load", "()I"⟩
abbrev cX8_tells : ByteArray := prog_10_method_55_code
def yX8_tells : MethodName := ⟨RX8, "tells", "(III)V"⟩
abbrev cX8_keepForUndo : ByteArray := prog_10_method_56_code
def yX8_keepForUndo : MethodName := ⟨RX8, "keepForUndo", "()V"⟩
abbrev cX8_refused : ByteArray := prog_10_method_57_code
def yX8_refused : MethodName := ⟨RX8, "refused", "(I)I"⟩
abbrev cX8_tapeName : ByteArray := prog_10_method_58_code
def yX8_tapeName : MethodName := ⟨RX8, "tapeName", "()I"⟩
abbrev cX8_come : ByteArray := prog_10_method_59_code
def yX8_come : MethodName := ⟨RX8, "come", "(IIIII)I"⟩
abbrev cX8_fieldOf : ByteArray := prog_10_method_60_code
def yX8_fieldOf : MethodName := ⟨RX8, "fieldOf", "(I)I"⟩
abbrev cX8_isNumber : ByteArray := prog_10_method_61_code
def yX8_isNumber : MethodName := ⟨RX8, "isNumber", "(II)Z"⟩
abbrev cX8_set : ByteArray := prog_10_method_62_code
def yX8_set : MethodName := ⟨RX8, "set", "(III)I"⟩
abbrev cX8_barredBy : ByteArray := prog_10_method_63_code
def yX8_barredBy : MethodName := ⟨RX8, "barredBy", "([II)I"⟩
abbrev cX8_first : ByteArray := prog_10_method_64_code
def yX8_first : MethodName := ⟨RX8, "first", "(I)I"⟩
abbrev cX8_swap : ByteArray := prog_10_method_65_code
def yX8_swap : MethodName := ⟨RX8, "swap", "(III)I"⟩
abbrev cX8_move : ByteArray := prog_10_method_66_code
def yX8_move : MethodName := ⟨RX8, "move", "(II)I"⟩
abbrev cX8_ring : ByteArray := prog_10_method_67_code
def yX8_ring : MethodName := ⟨RX8, "ring", "(III)I"⟩
abbrev cX8_settle : ByteArray := prog_10_method_68_code
def yX8_settle : MethodName := ⟨RX8, "settle", "()I"⟩
abbrev cX8_getsOff : ByteArray := prog_10_method_69_code
def yX8_getsOff : MethodName := ⟨RX8, "getsOff", "(I)V"⟩
abbrev cX8_stops : ByteArray := prog_10_method_70_code
def yX8_stops : MethodName := ⟨RX8, "stops", "()V"⟩
abbrev cX8_station : ByteArray := prog_10_method_71_code
def yX8_station : MethodName := ⟨RX8, "station", "(I)I"⟩
abbrev cX8_keep : ByteArray := prog_10_method_72_code
def yX8_keep : MethodName := ⟨RX8, "keep", "(I)I"⟩
abbrev cX8_restore : ByteArray := prog_10_method_73_code
def yX8_restore : MethodName := ⟨RX8, "restore", "(I)I"⟩
abbrev cX8_undo : ByteArray := prog_10_method_74_code
def yX8_undo : MethodName := ⟨RX8, "undo", "()I"⟩
abbrev cX8_sweetsAll : ByteArray := prog_10_method_75_code
def yX8_sweetsAll : MethodName := ⟨RX8, "sweetsAll", "()I"⟩
abbrev cX8_membersOf : ByteArray := prog_10_method_76_code
def yX8_membersOf : MethodName := ⟨RX8, "membersOf", "(I)I"⟩
abbrev cX8_familiesAll : ByteArray := prog_10_method_77_code
def yX8_familiesAll : MethodName := ⟨RX8, "familiesAll", "()I"⟩
abbrev cX8_value : ByteArray := prog_10_method_78_code
def yX8_value : MethodName := ⟨RX8, "value", "(I)I"⟩
abbrev cX8_rankOf : ByteArray := prog_10_method_79_code
def yX8_rankOf : MethodName := ⟨RX8, "rankOf", "(I)I"⟩
abbrev cX8_of : ByteArray := prog_10_method_80_code
def yX8_of : MethodName := ⟨RX8, "of", "(II)I"⟩
abbrev cX8_letter : ByteArray := prog_10_method_81_code
def yX8_letter : MethodName := ⟨RX8, "letter", "(II)I"⟩
abbrev cX8_at : ByteArray := prog_10_method_82_code
def yX8_at : MethodName := ⟨RX8, "at", "(I)I"⟩
abbrev cX8_isAtTable : ByteArray := prog_10_method_83_code
def yX8_isAtTable : MethodName := ⟨RX8, "isAtTable", "(II)Z"⟩
abbrev cX8_membersAt : ByteArray := prog_10_method_84_code
def yX8_membersAt : MethodName := ⟨RX8, "membersAt", "(II)I"⟩
abbrev cX8_familyAt : ByteArray := prog_10_method_85_code
def yX8_familyAt : MethodName := ⟨RX8, "familyAt", "(I)I"⟩
abbrev cX8_table : ByteArray := prog_10_method_86_code
def yX8_table : MethodName := ⟨RX8, "table", "(II)I"⟩
abbrev cX8_tablesOfFamily : ByteArray := prog_10_method_87_code
def yX8_tablesOfFamily : MethodName := ⟨RX8, "tablesOfFamily", "(I)I"⟩
abbrev cX8_joyOfFamily : ByteArray := prog_10_method_88_code
def yX8_joyOfFamily : MethodName := ⟨RX8, "joyOfFamily", "(I)I"⟩
abbrev cX8_family : ByteArray := prog_10_method_89_code
def yX8_family : MethodName := ⟨RX8, "family", "(II)I"⟩
abbrev cX8_ranked : ByteArray := prog_10_method_90_code
def yX8_ranked : MethodName := ⟨RX8, "ranked", "(I)I"⟩
abbrev cX8_why : ByteArray := prog_10_method_91_code
def yX8_why : MethodName := ⟨RX8, "why", "(III)I"⟩
abbrev cX8_whyMove : ByteArray := prog_10_method_92_code
def yX8_whyMove : MethodName := ⟨RX8, "whyMove", "(II)I"⟩
abbrev cX8_joyAt : ByteArray := prog_10_method_93_code
def yX8_joyAt : MethodName := ⟨RX8, "joyAt", "(II)I"⟩
abbrev cX8_ifSwapped : ByteArray := prog_10_method_94_code
def yX8_ifSwapped : MethodName := ⟨RX8, "ifSwapped", "(III)I"⟩
abbrev cX8_leastPrice : ByteArray := prog_10_method_95_code
def yX8_leastPrice : MethodName := ⟨RX8, "leastPrice", "(II)I"⟩
abbrev cX8_bestSeat : ByteArray := prog_10_method_96_code
def yX8_bestSeat : MethodName := ⟨RX8, "bestSeat", "(I)I"⟩
abbrev cX8_partner : ByteArray := prog_10_method_97_code
def yX8_partner : MethodName := ⟨RX8, "partner", "(I)I"⟩
abbrev cX8_rings : ByteArray := prog_10_method_98_code
def yX8_rings : MethodName := ⟨RX8, "rings", "()I"⟩
abbrev cX8_ifSettled : ByteArray := prog_10_method_99_code
def yX8_ifSettled : MethodName := ⟨RX8, "ifSettled", "(I)I"⟩
abbrev cX8_ifFirst : ByteArray := prog_10_method_100_code
def yX8_ifFirst : MethodName := ⟨RX8, "ifFirst", "(I)I"⟩
abbrev cX8_log : ByteArray := prog_10_method_101_code
def yX8_log : MethodName := ⟨RX8, "log", "(II)I"⟩
abbrev cX8_full : ByteArray := prog_10_method_102_code
def yX8_full : MethodName := ⟨RX8, "full", "()F"⟩
abbrev cX8_meanJoy : ByteArray := prog_10_method_103_code
def yX8_meanJoy : MethodName := ⟨RX8, "meanJoy", "()D"⟩
abbrev cX8_puts : ByteArray := prog_10_method_104_code
def yX8_puts : MethodName := ⟨RX8, "puts", "(I)V"⟩
abbrev cX8_writtenAt : ByteArray := prog_10_method_105_code
def yX8_writtenAt : MethodName := ⟨RX8, "writtenAt", "(I)I"⟩
abbrev cX8_layPlan : ByteArray := prog_10_method_106_code
def yX8_layPlan : MethodName := ⟨RX8, "layPlan", "()V"⟩
abbrev cX8_putsSeat : ByteArray := prog_10_method_107_code
def yX8_putsSeat : MethodName := ⟨RX8, "putsSeat", "(I)V"⟩
abbrev cX8_planLength : ByteArray := prog_10_method_108_code
def yX8_planLength : MethodName := ⟨RX8, "planLength", "()I"⟩
abbrev cX8_planByte : ByteArray := prog_10_method_109_code
def yX8_planByte : MethodName := ⟨RX8, "planByte", "(I)I"⟩
abbrev cX8_putsNumber : ByteArray := prog_10_method_110_code
def yX8_putsNumber : MethodName := ⟨RX8, "putsNumber", "(I)V"⟩
abbrev cX8_putsNext : ByteArray := prog_10_method_111_code
def yX8_putsNext : MethodName := ⟨RX8, "putsNext", "(I)V"⟩
abbrev cX8_putsWord : ByteArray := prog_10_method_112_code
def yX8_putsWord : MethodName := ⟨RX8, "putsWord", "(I)V"⟩
abbrev cX8_putsPart : ByteArray := prog_10_method_113_code
def yX8_putsPart : MethodName := ⟨RX8, "putsPart", "(II)V"⟩
abbrev cX8_putsLike : ByteArray := prog_10_method_114_code
def yX8_putsLike : MethodName := ⟨RX8, "putsLike", "(II)V"⟩
abbrev cX8_putsTraveller : ByteArray := prog_10_method_115_code
def yX8_putsTraveller : MethodName := ⟨RX8, "putsTraveller", "(I)V"⟩
abbrev cX8_putsSweets : ByteArray := prog_10_method_116_code
def yX8_putsSweets : MethodName := ⟨RX8, "putsSweets", "(I)V"⟩
abbrev cX8_laySetup : ByteArray := prog_10_method_117_code
def yX8_laySetup : MethodName := ⟨RX8, "laySetup", "()V"⟩
abbrev cX8_setupLength : ByteArray := prog_10_method_118_code
def yX8_setupLength : MethodName := ⟨RX8, "setupLength", "()I"⟩
abbrev cX8_setupByte : ByteArray := prog_10_method_119_code
def yX8_setupByte : MethodName := ⟨RX8, "setupByte", "(I)I"⟩
def RJ9 : String := "java/lang/Math"
def TJ9 : u_T := fun k => match k with
  | _ => ("", "", "", false)
def tyJ9 : Nat → FieldType := fun k => match k with
  | _ => .int
abbrev wsJ90 : List Cond := u_ws RJ9 TJ9 0
theorem nmJ9 : ∀ a, a < 0 → ∀ b, b < 0 → a ≠ b → (TJ9 a).2.1 ≠ (TJ9 b).2.1 := by decide +kernel
theorem tyJ9_ok : ∀ k, k < 0 → parseFieldDescriptor (TJ9 k).2.2.1 = some (tyJ9 k) := by decide +kernel
abbrev cJ9_floorMod_7cf53 : ByteArray := prog_11_method_50_code
def yJ9_floorMod_7cf53 : MethodName := ⟨RJ9, "floorMod", "(II)I"⟩
abbrev cJ9_abs_0f7a4 : ByteArray := prog_11_method_59_code
def yJ9_abs_0f7a4 : MethodName := ⟨RJ9, "abs", "(I)I"⟩
def RJ0 : String := "java/lang/String"
def TJ0 : u_T := fun k => match k with
  | _ => ("", "", "", false)
def tyJ0 : Nat → FieldType := fun k => match k with
  | _ => .int
abbrev wsJ00 : List Cond := u_ws RJ0 TJ0 0
theorem nmJ0 : ∀ a, a < 0 → ∀ b, b < 0 → a ≠ b → (TJ0 a).2.1 ≠ (TJ0 b).2.1 := by decide +kernel
theorem tyJ0_ok : ∀ k, k < 0 → parseFieldDescriptor (TJ0 k).2.2.1 = some (tyJ0 k) := by decide +kernel
abbrev cJ0_length_8abf5 : ByteArray := prog_12_method_54_code
def yJ0_length_8abf5 : MethodName := ⟨RJ0, "length", "()I"⟩
abbrev cJ0_charAt_5068e : ByteArray := prog_12_method_56_code
def yJ0_charAt_5068e : MethodName := ⟨RJ0, "charAt", "(I)C"⟩
abbrev cJ0_coder_7d493 : ByteArray := prog_12_method_152_code
def yJ0_coder_7d493 : MethodName := ⟨RJ0, "coder", "()B"⟩
abbrev cJ0_isLatin1_aae02 : ByteArray := prog_12_method_154_code
def yJ0_isLatin1_aae02 : MethodName := ⟨RJ0, "isLatin1", "()Z"⟩
abbrev cJ0_checkIndex_df160 : ByteArray := prog_12_method_155_code
def yJ0_checkIndex_df160 : MethodName := ⟨RJ0, "checkIndex", "(II)V"⟩
def RJ1 : String := "java/lang/StringLatin1"
def TJ1 : u_T := fun k => match k with
  | _ => ("", "", "", false)
def tyJ1 : Nat → FieldType := fun k => match k with
  | _ => .int
abbrev wsJ10 : List Cond := u_ws RJ1 TJ1 0
theorem nmJ1 : ∀ a, a < 0 → ∀ b, b < 0 → a ≠ b → (TJ1 a).2.1 ≠ (TJ1 b).2.1 := by decide +kernel
theorem tyJ1_ok : ∀ k, k < 0 → parseFieldDescriptor (TJ1 k).2.2.1 = some (tyJ1 k) := by decide +kernel
abbrev cJ1_charAt_3b067 : ByteArray := prog_13_method_2_code
def yJ1_charAt_3b067 : MethodName := ⟨RJ1, "charAt", "([BI)C"⟩
def RJ2 : String := "java/lang/StringUTF16"
def TJ2 : u_T := fun k => match k with
  | _ => ("", "", "", false)
def tyJ2 : Nat → FieldType := fun k => match k with
  | _ => .int
abbrev wsJ20 : List Cond := u_ws RJ2 TJ2 0
theorem nmJ2 : ∀ a, a < 0 → ∀ b, b < 0 → a ≠ b → (TJ2 a).2.1 ≠ (TJ2 b).2.1 := by decide +kernel
theorem tyJ2_ok : ∀ k, k < 0 → parseFieldDescriptor (TJ2 k).2.2.1 = some (tyJ2 k) := by decide +kernel
abbrev cJ2_getChar_3b067 : ByteArray := prog_14_method_5_code
def yJ2_getChar_3b067 : MethodName := ⟨RJ2, "getChar", "([BI)C"⟩
abbrev cJ2_length_9d52b : ByteArray := prog_14_method_6_code
def yJ2_length_9d52b : MethodName := ⟨RJ2, "length", "([B)I"⟩
abbrev cJ2_charAt_3b067 : ByteArray := prog_14_method_83_code
def yJ2_charAt_3b067 : MethodName := ⟨RJ2, "charAt", "([BI)C"⟩
abbrev cJ2_checkIndex_2214a : ByteArray := prog_14_method_91_code
def yJ2_checkIndex_2214a : MethodName := ⟨RJ2, "checkIndex", "(I[B)V"⟩
def RJ3 : String := "jdk/internal/util/Preconditions"
def TJ3 : u_T := fun k => match k with
  | _ => ("", "", "", false)
def tyJ3 : Nat → FieldType := fun k => match k with
  | _ => .int
abbrev wsJ30 : List Cond := u_ws RJ3 TJ3 0
theorem nmJ3 : ∀ a, a < 0 → ∀ b, b < 0 → a ≠ b → (TJ3 a).2.1 ≠ (TJ3 b).2.1 := by decide +kernel
theorem tyJ3_ok : ∀ k, k < 0 → parseFieldDescriptor (TJ3 k).2.2.1 = some (tyJ3 k) := by decide +kernel
abbrev cJ3_checkIndex_8e157 : ByteArray := prog_15_method_11_code
def yJ3_checkIndex_8e157 : MethodName := ⟨RJ3, "checkIndex", "(IILjava/util/function/BiFunction;)I"⟩
def RL : String := "SeatSwapLaw"
abbrev cL_law : ByteArray := code
def yL_law : MethodName := ⟨RL, "law", "([I)Z"⟩
abbrev vwCl : List vw_C := [(RX0, TX0, 3), (RX1, TX1, 3), (RX2, TX2, 6), (RX3, TX3, 3), (RX4, TX4, 2), (RX5, TX5, 13), (RX6, TX6, 10), (RX7, TX7, 10), (RX8, TX8, 18)]
end
section
/-! THE PROGRAM AS TABLES: printed by wip/gen/mk.py out of the task's own listing -/
def jv_nth {α : Type} (l : List α) (n : Nat) : Option α := match l, n with
  | [], _ => none
  | a :: _, 0 => some a
  | _ :: l, n + 1 => jv_nth l n
def jv_as {α : Type} (l : List (Nat × α)) (n : Nat) : Option α := match l with
  | [] => none
  | a :: l => if a.1 = n then some a.2 else jv_as l n
abbrev jv_I : Type := Option (Instr × Nat)
/-- X0_init -/
def jv_c0 : List (List jv_I) := [[some (.aload_n 0, 1), some (.invokespecial 3, 3), none, none, some (.aload_n 0, 1), some (.bipush 120, 2), none, some (.newarray .int, 2), none, some (.putfield 11, 3), none, none, some (.return_, 1)]]
/-- X0_clear -/
def jv_c1 : List (List jv_I) := [[some (.aload_n 0, 1), some (.iconst 0, 1), some (.putfield 15, 3), none, none, some (.aload_n 0, 1), some (.iconst 0, 1), some (.putfield 19, 3), none, none, some (.return_, 1)]]
/-- X0_copyFrom -/
def jv_c2 : List (List jv_I) := [[some (.iconst 0, 1), some (.istore_n 2, 1), some (.iload_n 2, 1), some (.aload_n 0, 1), some (.getfield 11, 3), none, none, some (.arraylength, 1), some (.if_icmp .ge 30, 3), none, none, some (.iload_n 2, 1), some (.aload_n 1, 1), some (.getfield 11, 3), none, none], [some (.arraylength, 1), some (.if_icmp .ge 21, 3), none, none, some (.aload_n 0, 1), some (.getfield 11, 3), none, none, some (.iload_n 2, 1), some (.aload_n 1, 1), some (.getfield 11, 3), none, none, some (.iload_n 2, 1), some (.iaload, 1), some (.iastore, 1)], [some (.iinc 2 1, 3), none, none, some (.goto (-33), 3), none, none, some (.aload_n 0, 1), some (.aload_n 1, 1), some (.getfield 15, 3), none, none, some (.putfield 15, 3), none, none, some (.aload_n 0, 1), some (.aload_n 1, 1)], [some (.getfield 19, 3), none, none, some (.putfield 19, 3), none, none, some (.return_, 1)]]
/-- X0_indexOf -/
def jv_c3 : List (List jv_I) := [[some (.aload_n 0, 1), some (.getfield 15, 3), none, none, some (.iload_n 1, 1), some (.iadd, 1), some (.bipush 40, 2), none, some (.invokestatic 22, 3), none, none, some (.iconst 3, 1), some (.imul, 1), some (.iload_n 2, 1), some (.iadd, 1), some (.ireturn, 1)]]
/-- X0_put -/
def jv_c4 : List (List jv_I) := [[some (.iload_n 1, 1), some (.ifCond .lt 19, 3), none, none, some (.iload_n 1, 1), some (.aload_n 0, 1), some (.getfield 11, 3), none, none, some (.arraylength, 1), some (.if_icmp .ge 10, 3), none, none, some (.aload_n 0, 1), some (.getfield 11, 3), none], [none, some (.iload_n 1, 1), some (.iload_n 2, 1), some (.iastore, 1), some (.return_, 1)]]
/-- X0_add -/
def jv_c5 : List (List jv_I) := [[some (.aload_n 0, 1), some (.aload_n 0, 1), some (.aload_n 0, 1), some (.getfield 19, 3), none, none, some (.iconst 0, 1), some (.invokevirtual 28, 3), none, none, some (.iload_n 1, 1), some (.invokevirtual 31, 3), none, none, some (.aload_n 0, 1), some (.aload_n 0, 1)], [some (.aload_n 0, 1), some (.getfield 19, 3), none, none, some (.iconst 1, 1), some (.invokevirtual 28, 3), none, none, some (.iload_n 2, 1), some (.invokevirtual 31, 3), none, none, some (.aload_n 0, 1), some (.aload_n 0, 1), some (.aload_n 0, 1), some (.getfield 19, 3)], [none, none, some (.iconst 2, 1), some (.invokevirtual 28, 3), none, none, some (.iload_n 3, 1), some (.invokevirtual 31, 3), none, none, some (.aload_n 0, 1), some (.getfield 19, 3), none, none, some (.bipush 40, 2), none], [some (.if_icmp .ge 16, 3), none, none, some (.aload_n 0, 1), some (.dup, 1), some (.getfield 19, 3), none, none, some (.iconst 1, 1), some (.iadd, 1), some (.putfield 19, 3), none, none, some (.goto 16, 3), none, none], [some (.aload_n 0, 1), some (.aload_n 0, 1), some (.getfield 15, 3), none, none, some (.iconst 1, 1), some (.iadd, 1), some (.bipush 40, 2), none, some (.irem, 1), some (.putfield 15, 3), none, none, some (.return_, 1)]]
/-- X0_part -/
def jv_c6 : List (List jv_I) := [[some (.iload_n 1, 1), some (.aload_n 0, 1), some (.getfield 19, 3), none, none, some (.if_icmp .lt 6, 3), none, none, some (.bipush (-2), 2), none, some (.ireturn, 1), some (.aload_n 0, 1), some (.iload_n 1, 1), some (.iload_n 2, 1), some (.invokevirtual 28, 3), none], [none, some (.istore_n 3, 1), some (.iload_n 3, 1), some (.ifCond .lt 21, 3), none, none, some (.iload_n 3, 1), some (.aload_n 0, 1), some (.getfield 11, 3), none, none, some (.arraylength, 1), some (.if_icmp .ge 12, 3), none, none, some (.aload_n 0, 1)], [some (.getfield 11, 3), none, none, some (.iload_n 3, 1), some (.iaload, 1), some (.goto 5, 3), none, none, some (.bipush (-2), 2), none, some (.ireturn, 1)]]
/-- X1_init -/
def jv_c7 : List (List jv_I) := [[some (.aload_n 0, 1), some (.invokespecial 1, 3), none, none, some (.aload_n 0, 1), some (.bipush 8, 2), none, some (.anewarray 9, 3), none, none, some (.putfield 11, 3), none, none, some (.iconst 0, 1), some (.istore_n 1, 1), some (.iload_n 1, 1)], [some (.bipush 8, 2), none, some (.if_icmp .ge 22, 3), none, none, some (.aload_n 0, 1), some (.getfield 11, 3), none, none, some (.iload_n 1, 1), some (.new 9, 3), none, none, some (.dup, 1), some (.invokespecial 15, 3), none], [none, some (.aastore, 1), some (.iinc 1 1, 3), none, none, some (.goto (-22), 3), none, none, some (.return_, 1)]]
/-- X1_forget -/
def jv_c8 : List (List jv_I) := [[some (.aload_n 0, 1), some (.iconst 0, 1), some (.putfield 16, 3), none, none, some (.return_, 1)]]
/-- X1_trainAt -/
def jv_c9 : List (List jv_I) := [[some (.aload_n 0, 1), some (.getfield 11, 3), none, none, some (.aload_n 0, 1), some (.getfield 20, 3), none, none, some (.iload_n 1, 1), some (.iadd, 1), some (.bipush 8, 2), none, some (.invokestatic 23, 3), none, none, some (.aaload, 1)], [some (.areturn, 1)]]
/-- X1_remember -/
def jv_c10 : List (List jv_I) := [[some (.aload_n 0, 1), some (.aload_n 0, 1), some (.getfield 16, 3), none, none, some (.invokevirtual 29, 3), none, none, some (.aload_n 1, 1), some (.invokevirtual 33, 3), none, none, some (.aload_n 0, 1), some (.getfield 16, 3), none, none], [some (.bipush 8, 2), none, some (.if_icmp .ge 16, 3), none, none, some (.aload_n 0, 1), some (.dup, 1), some (.getfield 16, 3), none, none, some (.iconst 1, 1), some (.iadd, 1), some (.putfield 16, 3), none, none, some (.goto 16, 3)], [none, none, some (.aload_n 0, 1), some (.aload_n 0, 1), some (.getfield 20, 3), none, none, some (.iconst 1, 1), some (.iadd, 1), some (.bipush 8, 2), none, some (.irem, 1), some (.putfield 20, 3), none, none, some (.return_, 1)]]
/-- X1_bringBack -/
def jv_c11 : List (List jv_I) := [[some (.aload_n 0, 1), some (.getfield 16, 3), none, none, some (.ifCond .le 25, 3), none, none, some (.aload_n 0, 1), some (.dup, 1), some (.getfield 16, 3), none, none, some (.iconst 1, 1), some (.isub, 1), some (.putfield 16, 3), none], [none, some (.aload_n 1, 1), some (.aload_n 0, 1), some (.aload_n 0, 1), some (.getfield 16, 3), none, none, some (.invokevirtual 29, 3), none, none, some (.invokevirtual 33, 3), none, none, some (.return_, 1)]]
/-- X2_init -/
def jv_c12 : List (List jv_I) := [[some (.aload_n 0, 1), some (.invokespecial 3, 3), none, none, some (.aload_n 0, 1), some (.new 9, 3), none, none, some (.dup, 1), some (.invokespecial 11, 3), none, none, some (.putfield 12, 3), none, none, some (.aload_n 0, 1)], [some (.new 18, 3), none, none, some (.dup, 1), some (.invokespecial 20, 3), none, none, some (.putfield 21, 3), none, none, some (.return_, 1)]]
/-- X2_kindOf -/
def jv_c13 : List (List jv_I) := [[some (.iload_n 0, 1), some (.bipush 97, 2), none, some (.if_icmp .lt 11, 3), none, none, some (.iload_n 0, 1), some (.bipush 122, 2), none, some (.if_icmp .gt 5, 3), none, none, some (.iconst 2, 1), some (.ireturn, 1), some (.iload_n 0, 1), some (.bipush 48, 2)], [none, some (.if_icmp .lt 11, 3), none, none, some (.iload_n 0, 1), some (.bipush 57, 2), none, some (.if_icmp .gt 5, 3), none, none, some (.iconst 3, 1), some (.ireturn, 1), some (.iload_n 0, 1), some (.bipush 32, 2), none, some (.if_icmp .eq 9, 3)], [none, none, some (.iload_n 0, 1), some (.bipush 10, 2), none, some (.if_icmp .ne 5, 3), none, none, some (.iconst 1, 1), some (.ireturn, 1), some (.iload_n 0, 1), some (.iconst (-1), 1), some (.if_icmp .ne 7, 3), none, none, some (.iconst 0, 1)], [some (.goto 4, 3), none, none, some (.iconst 4, 1), some (.ireturn, 1)]]
/-- X2_begin -/
def jv_c14 : List (List jv_I) := [[some (.aload_n 0, 1), some (.iconst 0, 1), some (.putfield 25, 3), none, none, some (.aload_n 0, 1), some (.iconst 0, 1), some (.putfield 29, 3), none, none, some (.aload_n 0, 1), some (.invokevirtual 33, 3), none, none, some (.return_, 1)]]
/-- X2_nextToken -/
def jv_c15 : List (List jv_I) := [[some (.aload_n 0, 1), some (.aload_n 0, 1), some (.getfield 29, 3), none, none, some (.putfield 36, 3), none, none, some (.aload_n 0, 1), some (.getfield 36, 3), none, none, some (.aload_n 0, 1), some (.getfield 12, 3), none, none], [some (.getfield 39, 3), none, none, some (.if_icmp .ge 34, 3), none, none, some (.aload_n 0, 1), some (.getfield 12, 3), none, none, some (.aload_n 0, 1), some (.getfield 36, 3), none, none, some (.invokevirtual 42, 3), none], [none, some (.invokestatic 46, 3), none, none, some (.iconst 1, 1), some (.if_icmp .ne 16, 3), none, none, some (.aload_n 0, 1), some (.dup, 1), some (.getfield 36, 3), none, none, some (.iconst 1, 1), some (.iadd, 1), some (.putfield 36, 3)], [none, none, some (.goto (-42), 3), none, none, some (.aload_n 0, 1), some (.aload_n 0, 1), some (.getfield 12, 3), none, none, some (.aload_n 0, 1), some (.getfield 36, 3), none, none, some (.invokevirtual 42, 3), none], [none, some (.invokestatic 46, 3), none, none, some (.putfield 49, 3), none, none, some (.aload_n 0, 1), some (.aload_n 0, 1), some (.getfield 36, 3), none, none, some (.iconst 1, 1), some (.iadd, 1), some (.putfield 29, 3), none], [none, some (.aload_n 0, 1), some (.getfield 49, 3), none, none, some (.iconst 2, 1), some (.if_icmp .eq 11, 3), none, none, some (.aload_n 0, 1), some (.getfield 49, 3), none, none, some (.iconst 3, 1), some (.if_icmp .ne 7, 3), none], [none, some (.iconst 1, 1), some (.goto 4, 3), none, none, some (.iconst 0, 1), some (.istore_n 1, 1), some (.iload_n 1, 1), some (.ifCond .eq 51, 3), none, none, some (.aload_n 0, 1), some (.getfield 29, 3), none, none, some (.aload_n 0, 1)], [some (.getfield 12, 3), none, none, some (.getfield 39, 3), none, none, some (.if_icmp .ge 37, 3), none, none, some (.aload_n 0, 1), some (.getfield 12, 3), none, none, some (.aload_n 0, 1), some (.getfield 29, 3), none], [none, some (.invokevirtual 42, 3), none, none, some (.invokestatic 46, 3), none, none, some (.aload_n 0, 1), some (.getfield 49, 3), none, none, some (.if_icmp .ne 16, 3), none, none, some (.aload_n 0, 1), some (.dup, 1)], [some (.getfield 29, 3), none, none, some (.iconst 1, 1), some (.iadd, 1), some (.putfield 29, 3), none, none, some (.goto (-49), 3), none, none, some (.return_, 1)]]
/-- X2_isSign -/
def jv_c16 : List (List jv_I) := [[some (.aload_n 0, 1), some (.getfield 12, 3), none, none, some (.aload_n 0, 1), some (.getfield 36, 3), none, none, some (.invokevirtual 42, 3), none, none, some (.iload_n 1, 1), some (.if_icmp .ne 7, 3), none, none, some (.iconst 1, 1)], [some (.goto 4, 3), none, none, some (.iconst 0, 1), some (.ireturn, 1)]]
/-- X2_isWord -/
def jv_c17 : List (List jv_I) := [[some (.aload_n 0, 1), some (.getfield 49, 3), none, none, some (.iconst 2, 1), some (.if_icmp .ne 19, 3), none, none, some (.aload_n 0, 1), some (.getfield 29, 3), none, none, some (.aload_n 0, 1), some (.getfield 36, 3), none, none], [some (.isub, 1), some (.aload_n 1, 1), some (.invokevirtual 52, 3), none, none, some (.if_icmp .eq 5, 3), none, none, some (.iconst 0, 1), some (.ireturn, 1), some (.iconst 0, 1), some (.istore_n 2, 1), some (.iload_n 2, 1), some (.aload_n 1, 1), some (.invokevirtual 52, 3), none], [none, some (.if_icmp .ge 32, 3), none, none, some (.aload_n 0, 1), some (.getfield 12, 3), none, none, some (.aload_n 0, 1), some (.getfield 36, 3), none, none, some (.iload_n 2, 1), some (.iadd, 1), some (.invokevirtual 42, 3), none], [none, some (.aload_n 1, 1), some (.iload_n 2, 1), some (.invokevirtual 57, 3), none, none, some (.if_icmp .eq 5, 3), none, none, some (.iconst 0, 1), some (.ireturn, 1), some (.iinc 2 1, 3), none, none, some (.goto (-34), 3), none], [none, some (.iconst 1, 1), some (.ireturn, 1)]]
/-- X2_isKeyword -/
def jv_c18 : List (List jv_I) := [[some (.aload_n 0, 1), some (.ldc 61, 2), none, some (.invokevirtual 63, 3), none, none, some (.ifCond .ne 84, 3), none, none, some (.aload_n 0, 1), some (.ldc 67, 2), none, some (.invokevirtual 63, 3), none, none, some (.ifCond .ne 75, 3)], [none, none, some (.aload_n 0, 1), some (.ldc 69, 2), none, some (.invokevirtual 63, 3), none, none, some (.ifCond .ne 66, 3), none, none, some (.aload_n 0, 1), some (.ldc 71, 2), none, some (.invokevirtual 63, 3), none], [none, some (.ifCond .ne 57, 3), none, none, some (.aload_n 0, 1), some (.ldc 73, 2), none, some (.invokevirtual 63, 3), none, none, some (.ifCond .ne 48, 3), none, none, some (.aload_n 0, 1), some (.ldc 75, 2), none], [some (.invokevirtual 63, 3), none, none, some (.ifCond .ne 39, 3), none, none, some (.aload_n 0, 1), some (.ldc 77, 2), none, some (.invokevirtual 63, 3), none, none, some (.ifCond .ne 30, 3), none, none, some (.aload_n 0, 1)], [some (.ldc 79, 2), none, some (.invokevirtual 63, 3), none, none, some (.ifCond .ne 21, 3), none, none, some (.aload_n 0, 1), some (.ldc 81, 2), none, some (.invokevirtual 63, 3), none, none, some (.ifCond .ne 12, 3), none], [none, some (.aload_n 0, 1), some (.ldc 83, 2), none, some (.invokevirtual 63, 3), none, none, some (.ifCond .eq 7, 3), none, none, some (.iconst 1, 1), some (.goto 4, 3), none, none, some (.iconst 0, 1), some (.ireturn, 1)]]
/-- X2_isName -/
def jv_c19 : List (List jv_I) := [[some (.aload_n 0, 1), some (.getfield 49, 3), none, none, some (.iconst 2, 1), some (.if_icmp .ne 27, 3), none, none, some (.aload_n 0, 1), some (.getfield 29, 3), none, none, some (.aload_n 0, 1), some (.getfield 36, 3), none, none], [some (.isub, 1), some (.iconst 5, 1), some (.if_icmp .gt 14, 3), none, none, some (.aload_n 0, 1), some (.invokevirtual 85, 3), none, none, some (.ifCond .ne 7, 3), none, none, some (.iconst 1, 1), some (.goto 4, 3), none, none], [some (.iconst 0, 1), some (.ireturn, 1)]]
/-- X2_packedName -/
def jv_c20 : List (List jv_I) := [[some (.iconst 0, 1), some (.istore_n 1, 1), some (.aload_n 0, 1), some (.getfield 36, 3), none, none, some (.istore_n 2, 1), some (.iload_n 2, 1), some (.aload_n 0, 1), some (.getfield 29, 3), none, none, some (.if_icmp .ge 44, 3), none, none, some (.iload_n 2, 1)], [some (.aload_n 0, 1), some (.getfield 36, 3), none, none, some (.iconst 5, 1), some (.iadd, 1), some (.if_icmp .ge 34, 3), none, none, some (.iload_n 1, 1), some (.aload_n 0, 1), some (.getfield 12, 3), none, none, some (.iload_n 2, 1), some (.invokevirtual 42, 3)], [none, none, some (.bipush 97, 2), none, some (.isub, 1), some (.iconst 1, 1), some (.iadd, 1), some (.iconst 5, 1), some (.iload_n 2, 1), some (.aload_n 0, 1), some (.getfield 36, 3), none, none, some (.isub, 1), some (.imul, 1), some (.ishl, 1)], [some (.ior, 1), some (.istore_n 1, 1), some (.iinc 2 1, 3), none, none, some (.goto (-46), 3), none, none, some (.iload_n 1, 1), some (.ireturn, 1)]]
/-- X2_number -/
def jv_c21 : List (List jv_I) := [[some (.aload_n 0, 1), some (.getfield 49, 3), none, none, some (.iconst 3, 1), some (.if_icmp .ne 16, 3), none, none, some (.aload_n 0, 1), some (.getfield 29, 3), none, none, some (.aload_n 0, 1), some (.getfield 36, 3), none, none], [some (.isub, 1), some (.iconst 2, 1), some (.if_icmp .le 5, 3), none, none, some (.iconst (-1), 1), some (.ireturn, 1), some (.iconst 0, 1), some (.istore_n 1, 1), some (.aload_n 0, 1), some (.getfield 36, 3), none, none, some (.istore_n 2, 1), some (.iload_n 2, 1), some (.aload_n 0, 1)], [some (.getfield 29, 3), none, none, some (.if_icmp .ge 26, 3), none, none, some (.bipush 10, 2), none, some (.iload_n 1, 1), some (.imul, 1), some (.aload_n 0, 1), some (.getfield 12, 3), none, none, some (.iload_n 2, 1), some (.invokevirtual 42, 3)], [none, none, some (.iadd, 1), some (.bipush 48, 2), none, some (.isub, 1), some (.istore_n 1, 1), some (.iinc 2 1, 3), none, none, some (.goto (-28), 3), none, none, some (.iload_n 1, 1), some (.ireturn, 1)]]
/-- X2_pass -/
def jv_c22 : List (List jv_I) := [[some (.aload_n 0, 1), some (.aload_n 0, 1), some (.getfield 25, 3), none, none, some (.ifCond .ne 7, 3), none, none, some (.iload_n 1, 1), some (.ifCond .ne 7, 3), none, none, some (.iconst 1, 1), some (.goto 4, 3), none, none], [some (.iconst 0, 1), some (.putfield 25, 3), none, none, some (.aload_n 0, 1), some (.getfield 25, 3), none, none, some (.ifCond .ne 7, 3), none, none, some (.aload_n 0, 1), some (.invokevirtual 33, 3), none, none, some (.return_, 1)]]
/-- X2_take -/
def jv_c23 : List (List jv_I) := [[some (.aload_n 0, 1), some (.aload_n 0, 1), some (.aload_n 1, 1), some (.invokevirtual 63, 3), none, none, some (.invokevirtual 89, 3), none, none, some (.return_, 1)]]
/-- X2_takeIfThere -/
def jv_c24 : List (List jv_I) := [[some (.aload_n 0, 1), some (.getfield 25, 3), none, none, some (.ifCond .ne 15, 3), none, none, some (.aload_n 0, 1), some (.aload_n 1, 1), some (.invokevirtual 63, 3), none, none, some (.ifCond .eq 7, 3), none, none, some (.iconst 1, 1)], [some (.goto 4, 3), none, none, some (.iconst 0, 1), some (.istore_n 2, 1), some (.iload_n 2, 1), some (.ifCond .eq 7, 3), none, none, some (.aload_n 0, 1), some (.invokevirtual 33, 3), none, none, some (.iload_n 2, 1), some (.ireturn, 1)]]
/-- X2_takeInt -/
def jv_c25 : List (List jv_I) := [[some (.aload_n 0, 1), some (.invokevirtual 93, 3), none, none, some (.istore_n 3, 1), some (.aload_n 0, 1), some (.iload_n 3, 1), some (.iload_n 1, 1), some (.if_icmp .lt 12, 3), none, none, some (.iload_n 3, 1), some (.iload_n 2, 1), some (.if_icmp .gt 7, 3), none, none], [some (.iconst 1, 1), some (.goto 4, 3), none, none, some (.iconst 0, 1), some (.invokevirtual 89, 3), none, none, some (.iload_n 3, 1), some (.ireturn, 1)]]
/-- X2_takeLike -/
def jv_c26 : List (List jv_I) := [[some (.aload_n 0, 1), some (.bipush 45, 2), none, some (.invokevirtual 96, 3), none, none, some (.istore_n 1, 1), some (.aload_n 0, 1), some (.iload_n 1, 1), some (.ifCond .ne 12, 3), none, none, some (.aload_n 0, 1), some (.bipush 43, 2), none, some (.invokevirtual 96, 3)], [none, none, some (.ifCond .eq 7, 3), none, none, some (.iconst 1, 1), some (.goto 4, 3), none, none, some (.iconst 0, 1), some (.invokevirtual 89, 3), none, none, some (.aload_n 0, 1), some (.iconst 0, 1), some (.bipush 9, 2)], [none, some (.invokevirtual 100, 3), none, none, some (.istore_n 2, 1), some (.iload_n 1, 1), some (.ifCond .eq 8, 3), none, none, some (.iload_n 2, 1), some (.ineg, 1), some (.goto 4, 3), none, none, some (.iload_n 2, 1), some (.ireturn, 1)]]
/-- X2_takeFreeSeat -/
def jv_c27 : List (List jv_I) := [[some (.aload_n 0, 1), some (.aload_n 0, 1), some (.getfield 25, 3), none, none, some (.ifCond .ne 14, 3), none, none, some (.aload_n 1, 1), some (.aload_n 0, 1), some (.invokevirtual 93, 3), none, none, some (.invokevirtual 104, 3), none, none], [some (.ifCond .ne 7, 3), none, none, some (.iconst 1, 1), some (.goto 4, 3), none, none, some (.iconst 0, 1), some (.putfield 25, 3), none, none, some (.aload_n 0, 1), some (.iconst 0, 1), some (.aload_n 1, 1), some (.invokevirtual 110, 3), none], [none, some (.iconst 1, 1), some (.isub, 1), some (.invokevirtual 100, 3), none, none, some (.ireturn, 1)]]
/-- X2_takeName -/
def jv_c28 : List (List jv_I) := [[some (.aload_n 0, 1), some (.invokevirtual 113, 3), none, none, some (.istore_n 1, 1), some (.aload_n 0, 1), some (.aload_n 0, 1), some (.invokevirtual 116, 3), none, none, some (.invokevirtual 89, 3), none, none, some (.iload_n 1, 1), some (.ireturn, 1)]]
/-- X2_tapeIsName -/
def jv_c29 : List (List jv_I) := [[some (.aload_n 0, 1), some (.invokevirtual 119, 3), none, none, some (.aload_n 0, 1), some (.getfield 36, 3), none, none, some (.ifCond .ne 28, 3), none, none, some (.aload_n 0, 1), some (.getfield 29, 3), none, none, some (.aload_n 0, 1)], [some (.getfield 12, 3), none, none, some (.getfield 39, 3), none, none, some (.if_icmp .ne 14, 3), none, none, some (.aload_n 0, 1), some (.invokevirtual 116, 3), none, none, some (.ifCond .eq 7, 3), none, none], [some (.iconst 1, 1), some (.goto 4, 3), none, none, some (.iconst 0, 1), some (.ireturn, 1)]]
/-- X2_nameOnTape -/
def jv_c30 : List (List jv_I) := [[some (.aload_n 0, 1), some (.invokevirtual 119, 3), none, none, some (.aload_n 0, 1), some (.invokevirtual 113, 3), none, none, some (.ireturn, 1)]]
/-- X2_readSetup -/
def jv_c31 : List (List jv_I) := [[some (.aload_n 1, 1), some (.invokevirtual 122, 3), none, none, some (.aload_n 0, 1), some (.invokevirtual 119, 3), none, none, some (.aload_n 0, 1), some (.ldc 61, 2), none, some (.invokevirtual 125, 3), none, none, some (.aload_n 1, 1), some (.aload_n 0, 1)], [some (.iconst 2, 1), some (.bipush 10, 2), none, some (.invokevirtual 100, 3), none, none, some (.putfield 129, 3), none, none, some (.aload_n 0, 1), some (.ldc 67, 2), none, some (.invokevirtual 125, 3), none, none, some (.aload_n 1, 1)], [some (.aload_n 0, 1), some (.iconst 0, 1), some (.aload_n 1, 1), some (.getfield 129, 3), none, none, some (.invokevirtual 100, 3), none, none, some (.putfield 132, 3), none, none, some (.aload_n 0, 1), some (.aload_n 0, 1), some (.bipush 59, 2), none], [some (.invokevirtual 96, 3), none, none, some (.invokevirtual 89, 3), none, none, some (.iconst 0, 1), some (.istore_n 2, 1), some (.iload_n 2, 1), some (.bipush 20, 2), none, some (.if_icmp .ge 28, 3), none, none, some (.aload_n 0, 1), some (.getfield 49, 3)], [none, none, some (.ifCond .eq 21, 3), none, none, some (.aload_n 0, 1), some (.getfield 25, 3), none, none, some (.ifCond .ne 14, 3), none, none, some (.aload_n 0, 1), some (.aload_n 1, 1), some (.invokevirtual 134, 3), none], [none, some (.iinc 2 1, 3), none, none, some (.goto (-28), 3), none, none, some (.aload_n 0, 1), some (.getfield 49, 3), none, none, some (.ifCond .ne 14, 3), none, none, some (.aload_n 0, 1), some (.getfield 25, 3)], [none, none, some (.ifCond .ne 7, 3), none, none, some (.iconst 1, 1), some (.goto 4, 3), none, none, some (.iconst 0, 1), some (.ireturn, 1)]]
/-- X2_readTraveller -/
def jv_c32_0 : List (List jv_I) := [[some (.aload_n 0, 1), some (.getfield 21, 3), none, none, some (.invokevirtual 138, 3), none, none, some (.aload_n 0, 1), some (.ldc 69, 2), none, some (.invokevirtual 125, 3), none, none, some (.aload_n 0, 1), some (.getfield 21, 3), none], [none, some (.aload_n 0, 1), some (.aload_n 1, 1), some (.invokevirtual 139, 3), none, none, some (.putfield 143, 3), none, none, some (.aload_n 0, 1), some (.getfield 21, 3), none, none, some (.aload_n 0, 1), some (.invokevirtual 145, 3), none], [none, some (.putfield 148, 3), none, none, some (.aload_n 0, 1), some (.ldc 71, 2), none, some (.invokevirtual 151, 3), none, none, some (.ifCond .eq 11, 3), none, none, some (.aload_n 0, 1), some (.getfield 21, 3), none], [none, some (.iconst 1, 1), some (.putfield 154, 3), none, none, some (.aload_n 0, 1), some (.ldc 73, 2), none, some (.invokevirtual 151, 3), none, none, some (.ifCond .eq 17, 3), none, none, some (.aload_n 0, 1), some (.getfield 21, 3)], [none, none, some (.aload_n 0, 1), some (.iconst 1, 1), some (.bipush 9, 2), none, some (.invokevirtual 100, 3), none, none, some (.putfield 156, 3), none, none, some (.aload_n 0, 1), some (.ldc 75, 2), none, some (.invokevirtual 151, 3)], [none, none, some (.ifCond .eq 14, 3), none, none, some (.aload_n 0, 1), some (.getfield 21, 3), none, none, some (.aload_n 0, 1), some (.invokevirtual 158, 3), none, none, some (.putfield 161, 3), none, none], [some (.aload_n 0, 1), some (.ldc 77, 2), none, some (.invokevirtual 151, 3), none, none, some (.ifCond .eq 14, 3), none, none, some (.aload_n 0, 1), some (.getfield 21, 3), none, none, some (.aload_n 0, 1), some (.invokevirtual 158, 3), none], [none, some (.putfield 163, 3), none, none, some (.aload_n 0, 1), some (.ldc 79, 2), none, some (.invokevirtual 151, 3), none, none, some (.ifCond .eq 34, 3), none, none, some (.aload_n 0, 1), some (.getfield 21, 3), none], [none, some (.aload_n 0, 1), some (.iconst 0, 1), some (.aload_n 1, 1), some (.getfield 129, 3), none, none, some (.iconst 1, 1), some (.isub, 1), some (.invokevirtual 100, 3), none, none, some (.putfield 165, 3), none, none, some (.aload_n 0, 1)], [some (.getfield 21, 3), none, none, some (.aload_n 0, 1), some (.iconst 0, 1), some (.iconst 3, 1), some (.invokevirtual 100, 3), none, none, some (.putfield 167, 3), none, none, some (.aload_n 0, 1), some (.ldc 81, 2), none, some (.invokevirtual 151, 3)], [none, none, some (.ifCond .eq 17, 3), none, none, some (.aload_n 0, 1), some (.getfield 21, 3), none, none, some (.aload_n 0, 1), some (.iconst 0, 1), some (.bipush 99, 2), none, some (.invokevirtual 100, 3), none, none], [some (.putfield 170, 3), none, none, some (.aload_n 0, 1), some (.ldc 83, 2), none, some (.invokevirtual 151, 3), none, none, some (.ifCond .eq 17, 3), none, none, some (.aload_n 0, 1), some (.getfield 21, 3), none, none]]
def jv_c32_1 : List (List jv_I) := [[some (.aload_n 0, 1), some (.iconst 1, 1), some (.bipush 99, 2), none, some (.invokevirtual 100, 3), none, none, some (.putfield 172, 3), none, none, some (.aload_n 0, 1), some (.aload_n 0, 1), some (.bipush 59, 2), none, some (.invokevirtual 96, 3), none], [none, some (.ifCond .eq 28, 3), none, none, some (.aload_n 1, 1), some (.aload_n 0, 1), some (.getfield 21, 3), none, none, some (.getfield 154, 3), none, none, some (.aload_n 0, 1), some (.getfield 21, 3), none, none], [some (.getfield 143, 3), none, none, some (.invokevirtual 174, 3), none, none, some (.ifCond .eq 7, 3), none, none, some (.iconst 1, 1), some (.goto 4, 3), none, none, some (.iconst 0, 1), some (.invokevirtual 89, 3), none], [none, some (.aload_n 0, 1), some (.getfield 25, 3), none, none, some (.ifCond .ne 11, 3), none, none, some (.aload_n 1, 1), some (.aload_n 0, 1), some (.getfield 21, 3), none, none, some (.invokevirtual 178, 3), none, none], [some (.return_, 1)]]
def jv_c32 : List (List jv_I) := jv_c32_0 ++ jv_c32_1
/-- X3_init -/
def jv_c33 : List (List jv_I) := [[some (.aload_n 0, 1), some (.invokespecial 3, 3), none, none, some (.return_, 1)]]
/-- X3_write -/
def jv_c34 : List (List jv_I) := [[some (.aload_n 0, 1), some (.iconst 0, 1), some (.putfield 9, 3), none, none, some (.aload_n 0, 1), some (.iload_n 2, 1), some (.putfield 15, 3), none, none, some (.aload_n 0, 1), some (.bipush (-2), 2), none, some (.putfield 18, 3), none, none], [some (.aload_n 0, 1), some (.ldc 21, 2), none, some (.invokevirtual 23, 3), none, none, some (.aload_n 0, 1), some (.aload_n 1, 1), some (.getfield 27, 3), none, none, some (.invokevirtual 32, 3), none, none, some (.aload_n 0, 1), some (.ldc 36, 2)], [none, some (.invokevirtual 23, 3), none, none, some (.aload_n 0, 1), some (.aload_n 1, 1), some (.getfield 38, 3), none, none, some (.invokevirtual 32, 3), none, none, some (.aload_n 0, 1), some (.bipush 59, 2), none, some (.invokevirtual 41, 3)], [none, none, some (.iconst 0, 1), some (.istore_n 3, 1), some (.iload_n 3, 1), some (.aload_n 1, 1), some (.getfield 44, 3), none, none, some (.if_icmp .ge 18, 3), none, none, some (.aload_n 0, 1), some (.aload_n 1, 1), some (.iload_n 3, 1), some (.invokevirtual 47, 3)], [none, none, some (.invokevirtual 51, 3), none, none, some (.iinc 3 1, 3), none, none, some (.goto (-20), 3), none, none, some (.return_, 1)]]
/-- X3_putTraveller -/
def jv_c35 : List (List jv_I) := [[some (.aload_n 0, 1), some (.ldc 55, 2), none, some (.invokevirtual 23, 3), none, none, some (.aload_n 0, 1), some (.aload_n 1, 1), some (.getfield 57, 3), none, none, some (.invokevirtual 32, 3), none, none, some (.aload_n 0, 1), some (.bipush 32, 2)], [none, some (.invokevirtual 41, 3), none, none, some (.iconst 0, 1), some (.istore_n 2, 1), some (.iload_n 2, 1), some (.iconst 5, 1), some (.if_icmp .ge 31, 3), none, none, some (.aload_n 1, 1), some (.iload_n 2, 1), some (.invokevirtual 62, 3), none, none], [some (.ifCond .le 23, 3), none, none, some (.aload_n 0, 1), some (.bipush 97, 2), none, some (.aload_n 1, 1), some (.iload_n 2, 1), some (.invokevirtual 62, 3), none, none, some (.iadd, 1), some (.iconst 1, 1), some (.isub, 1), some (.invokevirtual 41, 3), none], [none, some (.iinc 2 1, 3), none, none, some (.goto (-30), 3), none, none, some (.aload_n 1, 1), some (.getfield 66, 3), none, none, some (.iconst 1, 1), some (.if_icmp .ne 9, 3), none, none, some (.aload_n 0, 1)], [some (.ldc 69, 2), none, some (.invokevirtual 23, 3), none, none, some (.aload_n 0, 1), some (.ldc 71, 2), none, some (.aload_n 1, 1), some (.getfield 73, 3), none, none, some (.iconst 0, 1), some (.invokevirtual 76, 3), none, none], [some (.aload_n 0, 1), some (.ldc 80, 2), none, some (.aload_n 1, 1), some (.getfield 82, 3), none, none, some (.invokevirtual 85, 3), none, none, some (.aload_n 0, 1), some (.ldc 89, 2), none, some (.aload_n 1, 1), some (.getfield 91, 3), none], [none, some (.invokevirtual 85, 3), none, none, some (.aload_n 1, 1), some (.getfield 94, 3), none, none, some (.ifCond .gt 10, 3), none, none, some (.aload_n 1, 1), some (.getfield 97, 3), none, none, some (.ifCond .le 31, 3)], [none, none, some (.aload_n 0, 1), some (.ldc 100, 2), none, some (.invokevirtual 23, 3), none, none, some (.aload_n 0, 1), some (.aload_n 1, 1), some (.getfield 94, 3), none, none, some (.invokevirtual 32, 3), none, none], [some (.aload_n 0, 1), some (.bipush 32, 2), none, some (.invokevirtual 41, 3), none, none, some (.aload_n 0, 1), some (.aload_n 1, 1), some (.getfield 97, 3), none, none, some (.invokevirtual 32, 3), none, none, some (.aload_n 0, 1), some (.ldc 102, 2)], [none, some (.aload_n 1, 1), some (.getfield 104, 3), none, none, some (.iconst 0, 1), some (.invokevirtual 76, 3), none, none, some (.aload_n 0, 1), some (.ldc 107, 2), none, some (.aload_n 1, 1), some (.getfield 109, 3), none, none], [some (.bipush 99, 2), none, some (.invokevirtual 76, 3), none, none, some (.aload_n 0, 1), some (.bipush 59, 2), none, some (.invokevirtual 41, 3), none, none, some (.return_, 1)]]
/-- X3_putPart -/
def jv_c36 : List (List jv_I) := [[some (.iload_n 2, 1), some (.iload_n 3, 1), some (.if_icmp .eq 13, 3), none, none, some (.aload_n 0, 1), some (.aload_n 1, 1), some (.invokevirtual 23, 3), none, none, some (.aload_n 0, 1), some (.iload_n 2, 1), some (.invokevirtual 32, 3), none, none, some (.return_, 1)]]
/-- X3_putLike -/
def jv_c37 : List (List jv_I) := [[some (.iload_n 2, 1), some (.ifCond .eq 31, 3), none, none, some (.aload_n 0, 1), some (.aload_n 1, 1), some (.invokevirtual 23, 3), none, none, some (.aload_n 0, 1), some (.iload_n 2, 1), some (.ifCond .le 8, 3), none, none, some (.bipush 43, 2), none], [some (.goto 5, 3), none, none, some (.bipush 45, 2), none, some (.invokevirtual 41, 3), none, none, some (.aload_n 0, 1), some (.iload_n 2, 1), some (.invokestatic 112, 3), none, none, some (.invokevirtual 32, 3), none, none], [some (.return_, 1)]]
/-- X3_putNumber -/
def jv_c38 : List (List jv_I) := [[some (.iconst 0, 1), some (.istore_n 2, 1), some (.ldc 117, 2), none, some (.istore_n 3, 1), some (.iload_n 3, 1), some (.ifCond .le 48, 3), none, none, some (.iload_n 2, 1), some (.ifCond .ne 13, 3), none, none, some (.iload_n 1, 1), some (.iload_n 3, 1), some (.if_icmp .ge 8, 3)], [none, none, some (.iload_n 3, 1), some (.iconst 1, 1), some (.if_icmp .ne 7, 3), none, none, some (.iconst 1, 1), some (.goto 4, 3), none, none, some (.iconst 0, 1), some (.istore_n 2, 1), some (.iload_n 2, 1), some (.ifCond .eq 16, 3), none], [none, some (.aload_n 0, 1), some (.bipush 48, 2), none, some (.iload_n 1, 1), some (.iload_n 3, 1), some (.idiv, 1), some (.bipush 10, 2), none, some (.irem, 1), some (.iadd, 1), some (.invokevirtual 41, 3), none, none, some (.iload_n 3, 1), some (.bipush 10, 2)], [none, some (.idiv, 1), some (.istore_n 3, 1), some (.goto (-46), 3), none, none, some (.return_, 1)]]
/-- X3_putText -/
def jv_c39 : List (List jv_I) := [[some (.iconst 0, 1), some (.istore_n 2, 1), some (.iload_n 2, 1), some (.aload_n 1, 1), some (.invokevirtual 118, 3), none, none, some (.if_icmp .ge 18, 3), none, none, some (.aload_n 0, 1), some (.aload_n 1, 1), some (.iload_n 2, 1), some (.invokevirtual 123, 3), none, none], [some (.invokevirtual 41, 3), none, none, some (.iinc 2 1, 3), none, none, some (.goto (-20), 3), none, none, some (.return_, 1)]]
/-- X3_put -/
def jv_c40 : List (List jv_I) := [[some (.aload_n 0, 1), some (.getfield 9, 3), none, none, some (.aload_n 0, 1), some (.getfield 15, 3), none, none, some (.if_icmp .ne 8, 3), none, none, some (.aload_n 0, 1), some (.iload_n 1, 1), some (.putfield 18, 3), none, none], [some (.aload_n 0, 1), some (.dup, 1), some (.getfield 9, 3), none, none, some (.iconst 1, 1), some (.iadd, 1), some (.putfield 9, 3), none, none, some (.return_, 1)]]
/-- X4_init -/
def jv_c41 : List (List jv_I) := [[some (.aload_n 0, 1), some (.invokespecial 1, 3), none, none, some (.aload_n 0, 1), some (.sipush 1000, 3), none, none, some (.newarray .int, 2), none, some (.putfield 9, 3), none, none, some (.return_, 1)]]
/-- X4_hasRoom -/
def jv_c42 : List (List jv_I) := [[some (.aload_n 0, 1), some (.getfield 13, 3), none, none, some (.bipush 20, 2), none, some (.iadd, 1), some (.sipush 1000, 3), none, none, some (.if_icmp .gt 7, 3), none, none, some (.iconst 1, 1), some (.goto 4, 3), none], [none, some (.iconst 0, 1), some (.ireturn, 1)]]
/-- X4_putFour -/
def jv_c43 : List (List jv_I) := [[some (.bipush 24, 2), none, some (.istore_n 2, 1), some (.iload_n 2, 1), some (.ifCond .lt 20, 3), none, none, some (.aload_n 0, 1), some (.iload_n 1, 1), some (.iload_n 2, 1), some (.ishr, 1), some (.sipush 255, 3), none, none, some (.iand, 1), some (.invokevirtual 17, 3)], [none, none, some (.iinc 2 (-8), 3), none, none, some (.goto (-18), 3), none, none, some (.return_, 1)]]
/-- X4_put -/
def jv_c44 : List (List jv_I) := [[some (.aload_n 0, 1), some (.getfield 13, 3), none, none, some (.ifCond .lt 35, 3), none, none, some (.aload_n 0, 1), some (.getfield 13, 3), none, none, some (.aload_n 0, 1), some (.getfield 9, 3), none, none, some (.arraylength, 1)], [some (.if_icmp .ge 23, 3), none, none, some (.aload_n 0, 1), some (.getfield 9, 3), none, none, some (.aload_n 0, 1), some (.getfield 13, 3), none, none, some (.iload_n 1, 1), some (.iastore, 1), some (.aload_n 0, 1), some (.dup, 1), some (.getfield 13, 3)], [none, none, some (.iconst 1, 1), some (.iadd, 1), some (.putfield 13, 3), none, none, some (.return_, 1)]]
/-- X4_byteAt -/
def jv_c45 : List (List jv_I) := [[some (.iload_n 1, 1), some (.ifCond .lt 29, 3), none, none, some (.iload_n 1, 1), some (.aload_n 0, 1), some (.getfield 13, 3), none, none, some (.if_icmp .ge 21, 3), none, none, some (.iload_n 1, 1), some (.aload_n 0, 1), some (.getfield 9, 3), none], [none, some (.arraylength, 1), some (.if_icmp .ge 12, 3), none, none, some (.aload_n 0, 1), some (.getfield 9, 3), none, none, some (.iload_n 1, 1), some (.iaload, 1), some (.goto 4, 3), none, none, some (.iconst (-1), 1), some (.ireturn, 1)]]
/-- X5_init -/
def jv_c46 : List (List jv_I) := [[some (.aload_n 0, 1), some (.invokespecial 3, 3), none, none, some (.aload_n 0, 1), some (.bipush 20, 2), none, some (.anewarray 9, 3), none, none, some (.putfield 11, 3), none, none, some (.iconst 0, 1), some (.istore_n 1, 1), some (.iload_n 1, 1)], [some (.bipush 20, 2), none, some (.if_icmp .ge 22, 3), none, none, some (.aload_n 0, 1), some (.getfield 11, 3), none, none, some (.iload_n 1, 1), some (.new 9, 3), none, none, some (.dup, 1), some (.invokespecial 17, 3), none], [none, some (.aastore, 1), some (.iinc 1 1, 3), none, none, some (.goto (-22), 3), none, none, some (.aload_n 0, 1), some (.new 9, 3), none, none, some (.dup, 1), some (.invokespecial 17, 3), none, none], [some (.putfield 18, 3), none, none, some (.aload_n 0, 1), some (.bipush 50, 2), none, some (.newarray .int, 2), none, some (.putfield 22, 3), none, none, some (.aload_n 0, 1), some (.new 26, 3), none, none, some (.dup, 1)], [some (.invokespecial 28, 3), none, none, some (.putfield 29, 3), none, none, some (.aload_n 0, 1), some (.iconst 4, 1), some (.putfield 33, 3), none, none, some (.aload_n 0, 1), some (.iconst 1, 1), some (.putfield 37, 3), none, none], [some (.return_, 1)]]
/-- X5_clear -/
def jv_c47 : List (List jv_I) := [[some (.iconst 0, 1), some (.istore_n 1, 1), some (.iload_n 1, 1), some (.aload_n 0, 1), some (.getfield 22, 3), none, none, some (.arraylength, 1), some (.if_icmp .ge 16, 3), none, none, some (.aload_n 0, 1), some (.getfield 22, 3), none, none, some (.iload_n 1, 1)], [some (.iconst 0, 1), some (.iastore, 1), some (.iinc 1 1, 3), none, none, some (.goto (-19), 3), none, none, some (.aload_n 0, 1), some (.getfield 29, 3), none, none, some (.invokevirtual 40, 3), none, none, some (.aload_n 0, 1)], [some (.iconst 0, 1), some (.putfield 37, 3), none, none, some (.aload_n 0, 1), some (.iconst 0, 1), some (.putfield 43, 3), none, none, some (.aload_n 0, 1), some (.iconst 0, 1), some (.putfield 46, 3), none, none, some (.aload_n 0, 1), some (.iconst 0, 1)], [some (.putfield 49, 3), none, none, some (.aload_n 0, 1), some (.iconst 0, 1), some (.putfield 52, 3), none, none, some (.aload_n 0, 1), some (.iconst 0, 1), some (.putfield 55, 3), none, none, some (.aload_n 0, 1), some (.iconst 0, 1), some (.putfield 58, 3)], [none, none, some (.aload_n 0, 1), some (.iconst 0, 1), some (.putfield 61, 3), none, none, some (.return_, 1)]]
/-- X5_copyFrom -/
def jv_c48 : List (List jv_I) := [[some (.iconst 0, 1), some (.istore_n 2, 1), some (.iload_n 2, 1), some (.aload_n 1, 1), some (.getfield 46, 3), none, none, some (.if_icmp .ge 22, 3), none, none, some (.aload_n 0, 1), some (.iload_n 2, 1), some (.invokevirtual 64, 3), none, none, some (.aload_n 1, 1)], [some (.iload_n 2, 1), some (.invokevirtual 64, 3), none, none, some (.invokevirtual 68, 3), none, none, some (.iinc 2 1, 3), none, none, some (.goto (-24), 3), none, none, some (.iconst 0, 1), some (.istore_n 2, 1), some (.iload_n 2, 1)], [some (.aload_n 0, 1), some (.getfield 22, 3), none, none, some (.arraylength, 1), some (.if_icmp .ge 30, 3), none, none, some (.iload_n 2, 1), some (.aload_n 1, 1), some (.getfield 22, 3), none, none, some (.arraylength, 1), some (.if_icmp .ge 21, 3), none], [none, some (.aload_n 0, 1), some (.getfield 22, 3), none, none, some (.iload_n 2, 1), some (.aload_n 1, 1), some (.getfield 22, 3), none, none, some (.iload_n 2, 1), some (.iaload, 1), some (.iastore, 1), some (.iinc 2 1, 3), none, none], [some (.goto (-33), 3), none, none, some (.aload_n 0, 1), some (.getfield 29, 3), none, none, some (.aload_n 1, 1), some (.getfield 29, 3), none, none, some (.invokevirtual 72, 3), none, none, some (.aload_n 0, 1), some (.aload_n 1, 1)], [some (.getfield 33, 3), none, none, some (.putfield 33, 3), none, none, some (.aload_n 0, 1), some (.aload_n 1, 1), some (.getfield 37, 3), none, none, some (.putfield 37, 3), none, none, some (.aload_n 0, 1), some (.aload_n 1, 1)], [some (.getfield 43, 3), none, none, some (.putfield 43, 3), none, none, some (.aload_n 0, 1), some (.aload_n 1, 1), some (.getfield 46, 3), none, none, some (.putfield 46, 3), none, none, some (.aload_n 0, 1), some (.aload_n 1, 1)], [some (.getfield 49, 3), none, none, some (.putfield 49, 3), none, none, some (.aload_n 0, 1), some (.aload_n 1, 1), some (.getfield 52, 3), none, none, some (.putfield 52, 3), none, none, some (.aload_n 0, 1), some (.aload_n 1, 1)], [some (.getfield 55, 3), none, none, some (.putfield 55, 3), none, none, some (.aload_n 0, 1), some (.aload_n 1, 1), some (.getfield 58, 3), none, none, some (.putfield 58, 3), none, none, some (.aload_n 0, 1), some (.aload_n 1, 1)], [some (.getfield 61, 3), none, none, some (.putfield 61, 3), none, none, some (.return_, 1)]]
/-- X5_traveller -/
def jv_c49 : List (List jv_I) := [[some (.iload_n 1, 1), some (.ifCond .lt 21, 3), none, none, some (.iload_n 1, 1), some (.aload_n 0, 1), some (.getfield 11, 3), none, none, some (.arraylength, 1), some (.if_icmp .ge 12, 3), none, none, some (.aload_n 0, 1), some (.getfield 11, 3), none], [none, some (.iload_n 1, 1), some (.aaload, 1), some (.goto 7, 3), none, none, some (.aload_n 0, 1), some (.getfield 18, 3), none, none, some (.areturn, 1)]]
/-- X5_seats -/
def jv_c50 : List (List jv_I) := [[some (.aload_n 0, 1), some (.getfield 33, 3), none, none, some (.iconst 4, 1), some (.imul, 1), some (.ireturn, 1)]]
/-- X5_tables -/
def jv_c51 : List (List jv_I) := [[some (.aload_n 0, 1), some (.getfield 33, 3), none, none, some (.iconst 1, 1), some (.iadd, 1), some (.iconst 2, 1), some (.idiv, 1), some (.ireturn, 1)]]
/-- X5_isSeat -/
def jv_c52 : List (List jv_I) := [[some (.iload_n 1, 1), some (.iconst 0, 1), some (.aload_n 0, 1), some (.invokevirtual 75, 3), none, none, some (.iconst 1, 1), some (.isub, 1), some (.invokestatic 79, 3), none, none, some (.ireturn, 1)]]
/-- X5_isTraveller -/
def jv_c53 : List (List jv_I) := [[some (.iload_n 1, 1), some (.iconst 0, 1), some (.aload_n 0, 1), some (.getfield 46, 3), none, none, some (.iconst 1, 1), some (.isub, 1), some (.invokestatic 79, 3), none, none, some (.ireturn, 1)]]
/-- X5_isInRange -/
def jv_c54 : List (List jv_I) := [[some (.iload_n 1, 1), some (.tableswitch 70 0 4 #[35, 35, 44, 56, 63], 35), none, none, none, none, none, none, none, none, none, none, none, none, none, none], [none, none, none, none, none, none, none, none, none, none, none, none, none, none, none, none], [none, none, none, none, some (.iload_n 2, 1), some (.bipush (-9), 2), none, some (.bipush 9, 2), none, some (.invokestatic 79, 3), none, none, some (.ireturn, 1), some (.iload_n 2, 1), some (.iconst 0, 1), some (.aload_n 0, 1)], [some (.getfield 33, 3), none, none, some (.iconst 1, 1), some (.isub, 1), some (.invokestatic 79, 3), none, none, some (.ireturn, 1), some (.iload_n 2, 1), some (.iconst 0, 1), some (.iconst 3, 1), some (.invokestatic 79, 3), none, none, some (.ireturn, 1)], [some (.iload_n 2, 1), some (.iconst 0, 1), some (.iconst 1, 1), some (.invokestatic 79, 3), none, none, some (.ireturn, 1), some (.iconst 0, 1), some (.ireturn, 1)]]
/-- X5_whoHas -/
def jv_c55 : List (List jv_I) := [[some (.iconst 0, 1), some (.istore_n 2, 1), some (.iload_n 2, 1), some (.aload_n 0, 1), some (.getfield 46, 3), none, none, some (.if_icmp .ge 23, 3), none, none, some (.aload_n 0, 1), some (.iload_n 2, 1), some (.invokevirtual 64, 3), none, none, some (.getfield 83, 3)], [none, none, some (.iload_n 1, 1), some (.if_icmp .ne 5, 3), none, none, some (.iload_n 2, 1), some (.ireturn, 1), some (.iinc 2 1, 3), none, none, some (.goto (-25), 3), none, none, some (.bipush (-2), 2), none], [some (.ireturn, 1)]]
/-- X5_isFree -/
def jv_c56 : List (List jv_I) := [[some (.aload_n 0, 1), some (.iload_n 1, 1), some (.invokevirtual 86, 3), none, none, some (.bipush (-2), 2), none, some (.if_icmp .ne 7, 3), none, none, some (.iconst 1, 1), some (.goto 4, 3), none, none, some (.iconst 0, 1), some (.ireturn, 1)]]
/-- X5_allows -/
def jv_c57 : List (List jv_I) := [[some (.iload_n 1, 1), some (.iconst 1, 1), some (.if_icmp .eq 13, 3), none, none, some (.iload_n 2, 1), some (.iconst 4, 1), some (.idiv, 1), some (.aload_n 0, 1), some (.getfield 37, 3), none, none, some (.if_icmp .lt 7, 3), none, none, some (.iconst 1, 1)], [some (.goto 4, 3), none, none, some (.iconst 0, 1), some (.ireturn, 1)]]
/-- X5_maySit -/
def jv_c58 : List (List jv_I) := [[some (.aload_n 0, 1), some (.aload_n 0, 1), some (.iload_n 1, 1), some (.invokevirtual 64, 3), none, none, some (.getfield 90, 3), none, none, some (.iload_n 2, 1), some (.invokevirtual 93, 3), none, none, some (.ireturn, 1)]]
/-- X5_barredBy -/
def jv_c59 : List (List jv_I) := [[some (.iconst 0, 1), some (.istore_n 2, 1), some (.iconst 0, 1), some (.istore_n 3, 1), some (.iload_n 3, 1), some (.aload_n 0, 1), some (.getfield 46, 3), none, none, some (.if_icmp .ge 38, 3), none, none, some (.aload_n 0, 1), some (.iload_n 3, 1), some (.invokevirtual 64, 3), none], [none, some (.astore 4, 2), none, some (.aload 4, 2), none, some (.getfield 90, 3), none, none, some (.ifCond .ne 17, 3), none, none, some (.aload 4, 2), none, some (.getfield 83, 3), none, none], [some (.iconst 4, 1), some (.idiv, 1), some (.iload_n 1, 1), some (.if_icmp .ge 6, 3), none, none, some (.iinc 2 1, 3), none, none, some (.iinc 3 1, 3), none, none, some (.goto (-40), 3), none, none, some (.iload_n 2, 1)], [some (.ireturn, 1)]]
/-- X5_membersAt -/
def jv_c60 : List (List jv_I) := [[some (.iload_n 1, 1), some (.bipush 10, 2), none, some (.imul, 1), some (.iload_n 2, 1), some (.iadd, 1), some (.istore_n 3, 1), some (.iload_n 3, 1), some (.ifCond .lt 21, 3), none, none, some (.iload_n 3, 1), some (.aload_n 0, 1), some (.getfield 22, 3), none, none], [some (.arraylength, 1), some (.if_icmp .ge 12, 3), none, none, some (.aload_n 0, 1), some (.getfield 22, 3), none, none, some (.iload_n 3, 1), some (.iaload, 1), some (.goto 4, 3), none, none, some (.iconst 0, 1), some (.ireturn, 1)]]
/-- X5_countAtTable -/
def jv_c61 : List (List jv_I) := [[some (.aload_n 1, 1), some (.getfield 83, 3), none, none, some (.bipush 8, 2), none, some (.idiv, 1), some (.bipush 10, 2), none, some (.imul, 1), some (.aload_n 1, 1), some (.getfield 97, 3), none, none, some (.iadd, 1), some (.istore_n 3, 1)], [some (.iload_n 3, 1), some (.ifCond .lt 22, 3), none, none, some (.iload_n 3, 1), some (.aload_n 0, 1), some (.getfield 22, 3), none, none, some (.arraylength, 1), some (.if_icmp .ge 13, 3), none, none, some (.aload_n 0, 1), some (.getfield 22, 3), none], [none, some (.iload_n 3, 1), some (.dup2, 1), some (.iaload, 1), some (.iload_n 2, 1), some (.iadd, 1), some (.iastore, 1), some (.return_, 1)]]
/-- X5_admit -/
def jv_c62 : List (List jv_I) := [[some (.aload_n 0, 1), some (.getfield 46, 3), none, none, some (.aload_n 0, 1), some (.getfield 11, 3), none, none, some (.arraylength, 1), some (.if_icmp .lt 4, 3), none, none, some (.return_, 1), some (.aload_n 0, 1), some (.aload_n 0, 1), some (.getfield 46, 3)], [none, none, some (.invokevirtual 64, 3), none, none, some (.aload_n 1, 1), some (.invokevirtual 68, 3), none, none, some (.aload_n 0, 1), some (.aload_n 1, 1), some (.iconst 1, 1), some (.invokevirtual 100, 3), none, none, some (.aload_n 0, 1)], [some (.dup, 1), some (.getfield 46, 3), none, none, some (.iconst 1, 1), some (.iadd, 1), some (.putfield 46, 3), none, none, some (.return_, 1)]]
/-- X5_letOff -/
def jv_c63 : List (List jv_I) := [[some (.aload_n 0, 1), some (.iload_n 1, 1), some (.invokevirtual 64, 3), none, none, some (.astore_n 2, 1), some (.aload_n 0, 1), some (.getfield 29, 3), none, none, some (.iconst 4, 1), some (.iload_n 1, 1), some (.aload_n 2, 1), some (.getfield 83, 3), none, none], [some (.invokevirtual 104, 3), none, none, some (.aload_n 0, 1), some (.aload_n 2, 1), some (.iconst (-1), 1), some (.invokevirtual 100, 3), none, none, some (.aload_n 0, 1), some (.dup, 1), some (.getfield 46, 3), none, none, some (.iconst 1, 1), some (.isub, 1)], [some (.putfield 46, 3), none, none, some (.iload_n 1, 1), some (.istore_n 3, 1), some (.iload_n 3, 1), some (.aload_n 0, 1), some (.getfield 46, 3), none, none, some (.if_icmp .ge 24, 3), none, none, some (.aload_n 0, 1), some (.iload_n 3, 1), some (.invokevirtual 64, 3)], [none, none, some (.aload_n 0, 1), some (.iload_n 3, 1), some (.iconst 1, 1), some (.iadd, 1), some (.invokevirtual 64, 3), none, none, some (.invokevirtual 68, 3), none, none, some (.iinc 3 1, 3), none, none, some (.goto (-26), 3)], [none, none, some (.aload_n 0, 1), some (.dup, 1), some (.getfield 61, 3), none, none, some (.iconst 1, 1), some (.iadd, 1), some (.putfield 61, 3), none, none, some (.return_, 1)]]
/-- X5_goOn -/
def jv_c64 : List (List jv_I) := [[some (.aload_n 0, 1), some (.dup, 1), some (.getfield 43, 3), none, none, some (.iconst 1, 1), some (.iadd, 1), some (.putfield 43, 3), none, none, some (.aload_n 0, 1), some (.getfield 46, 3), none, none, some (.iconst 1, 1), some (.isub, 1)], [some (.istore_n 1, 1), some (.iload_n 1, 1), some (.ifCond .lt 29, 3), none, none, some (.aload_n 0, 1), some (.iload_n 1, 1), some (.invokevirtual 64, 3), none, none, some (.getfield 108, 3), none, none, some (.aload_n 0, 1), some (.getfield 43, 3), none], [none, some (.if_icmp .ne 8, 3), none, none, some (.aload_n 0, 1), some (.iload_n 1, 1), some (.invokevirtual 111, 3), none, none, some (.iinc 1 (-1), 3), none, none, some (.goto (-27), 3), none, none, some (.return_, 1)]]
/-- X5_joyIn -/
def jv_c65 : List (List jv_I) := [[some (.aload_n 0, 1), some (.iload_n 1, 1), some (.invokevirtual 64, 3), none, none, some (.astore_n 3, 1), some (.iload_n 2, 1), some (.iconst 4, 1), some (.idiv, 1), some (.istore 4, 2), none, some (.iload_n 2, 1), some (.iconst 4, 1), some (.irem, 1), some (.istore 5, 2), none], [some (.iconst 4, 1), some (.aload_n 0, 1), some (.aload_n 3, 1), some (.iload_n 2, 1), some (.bipush 8, 2), none, some (.idiv, 1), some (.invokevirtual 115, 3), none, none, some (.imul, 1), some (.aload_n 3, 1), some (.getfield 119, 3), none, none, some (.iload 4, 2)], [none, some (.aload_n 3, 1), some (.getfield 122, 3), none, none, some (.isub, 1), some (.invokestatic 125, 3), none, none, some (.imul, 1), some (.isub, 1), some (.istore 6, 2), none, some (.iload 5, 2), none, some (.ifCond .eq 9, 3)], [none, none, some (.iload 5, 2), none, some (.iconst 3, 1), some (.if_icmp .ne 12, 3), none, none, some (.iload 6, 2), none, some (.aload_n 3, 1), some (.getfield 130, 3), none, none, some (.iadd, 1), some (.istore 6, 2)], [none, some (.iload 4, 2), none, some (.invokestatic 133, 3), none, none, some (.ifCond .eq 12, 3), none, none, some (.iload 6, 2), none, some (.aload_n 3, 1), some (.getfield 137, 3), none, none, some (.iadd, 1)], [some (.istore 6, 2), none, some (.iload 6, 2), none, some (.ireturn, 1)]]
/-- X5_joyOf -/
def jv_c66 : List (List jv_I) := [[some (.aload_n 0, 1), some (.iload_n 1, 1), some (.aload_n 0, 1), some (.iload_n 1, 1), some (.invokevirtual 64, 3), none, none, some (.getfield 83, 3), none, none, some (.invokevirtual 140, 3), none, none, some (.ireturn, 1)]]
/-- X5_relativesAt -/
def jv_c67 : List (List jv_I) := [[some (.aload_n 1, 1), some (.getfield 97, 3), none, none, some (.ifCond .ne 5, 3), none, none, some (.iconst 0, 1), some (.ireturn, 1), some (.aload_n 0, 1), some (.iload_n 2, 1), some (.aload_n 1, 1), some (.getfield 97, 3), none, none, some (.invokevirtual 144, 3)], [none, none, some (.istore_n 3, 1), some (.aload_n 1, 1), some (.getfield 83, 3), none, none, some (.bipush 8, 2), none, some (.idiv, 1), some (.iload_n 2, 1), some (.if_icmp .ne 9, 3), none, none, some (.iload_n 3, 1), some (.iconst 1, 1)], [some (.isub, 1), some (.goto 4, 3), none, none, some (.iload_n 3, 1), some (.ireturn, 1)]]
/-- X5_looksForward -/
def jv_c68 : List (List jv_I) := [[some (.iload_n 0, 1), some (.iconst 2, 1), some (.irem, 1), some (.iconst 1, 1), some (.if_icmp .ne 7, 3), none, none, some (.iconst 1, 1), some (.goto 4, 3), none, none, some (.iconst 0, 1), some (.ireturn, 1)]]
/-- X5_sumOfJoys -/
def jv_c69 : List (List jv_I) := [[some (.iconst 0, 1), some (.istore_n 1, 1), some (.iconst 0, 1), some (.istore_n 2, 1), some (.iload_n 2, 1), some (.aload_n 0, 1), some (.getfield 46, 3), none, none, some (.if_icmp .ge 17, 3), none, none, some (.iload_n 1, 1), some (.aload_n 0, 1), some (.iload_n 2, 1), some (.invokevirtual 147, 3)], [none, none, some (.iadd, 1), some (.istore_n 1, 1), some (.iinc 2 1, 3), none, none, some (.goto (-19), 3), none, none, some (.iload_n 1, 1), some (.ireturn, 1)]]
/-- X5_grumblers -/
def jv_c70 : List (List jv_I) := [[some (.iconst 0, 1), some (.istore_n 1, 1), some (.iconst 0, 1), some (.istore_n 2, 1), some (.iload_n 2, 1), some (.aload_n 0, 1), some (.getfield 46, 3), none, none, some (.if_icmp .ge 20, 3), none, none, some (.aload_n 0, 1), some (.iload_n 2, 1), some (.invokevirtual 147, 3), none], [none, some (.ifCond .ge 6, 3), none, none, some (.iinc 1 1, 3), none, none, some (.iinc 2 1, 3), none, none, some (.goto (-22), 3), none, none, some (.iload_n 1, 1), some (.ireturn, 1)]]
/-- X5_placeOf -/
def jv_c71 : List (List jv_I) := [[some (.aload_n 0, 1), some (.iload_n 1, 1), some (.invokevirtual 147, 3), none, none, some (.istore_n 2, 1), some (.iconst 0, 1), some (.istore_n 3, 1), some (.iconst 0, 1), some (.istore 4, 2), none, some (.iload 4, 2), none, some (.aload_n 0, 1), some (.getfield 46, 3), none], [none, some (.if_icmp .ge 38, 3), none, none, some (.aload_n 0, 1), some (.iload 4, 2), none, some (.invokevirtual 147, 3), none, none, some (.istore 5, 2), none, some (.iload 5, 2), none, some (.iload_n 2, 1), some (.if_icmp .gt 15, 3)], [none, none, some (.iload 5, 2), none, some (.iload_n 2, 1), some (.if_icmp .ne 12, 3), none, none, some (.iload 4, 2), none, some (.iload_n 1, 1), some (.if_icmp .ge 6, 3), none, none, some (.iinc 3 1, 3), none], [none, some (.iinc 4 1, 3), none, none, some (.goto (-41), 3), none, none, some (.iload_n 3, 1), some (.ireturn, 1)]]
/-- X5_whoIsAtPlace -/
def jv_c72 : List (List jv_I) := [[some (.iconst 0, 1), some (.istore_n 2, 1), some (.iload_n 2, 1), some (.aload_n 0, 1), some (.getfield 46, 3), none, none, some (.if_icmp .ge 20, 3), none, none, some (.aload_n 0, 1), some (.iload_n 2, 1), some (.invokevirtual 150, 3), none, none, some (.iload_n 1, 1)], [some (.if_icmp .ne 5, 3), none, none, some (.iload_n 2, 1), some (.ireturn, 1), some (.iinc 2 1, 3), none, none, some (.goto (-22), 3), none, none, some (.bipush (-2), 2), none, some (.ireturn, 1)]]
/-- X5_isAt -/
def jv_c73 : List (List jv_I) := [[some (.aload_n 0, 1), some (.iload_n 1, 1), some (.invokevirtual 64, 3), none, none, some (.getfield 83, 3), none, none, some (.bipush 8, 2), none, some (.idiv, 1), some (.iload_n 2, 1), some (.if_icmp .ne 7, 3), none, none, some (.iconst 1, 1)], [some (.goto 4, 3), none, none, some (.iconst 0, 1), some (.ireturn, 1)]]
/-- X5_travellersAt -/
def jv_c74 : List (List jv_I) := [[some (.iconst 0, 1), some (.istore_n 2, 1), some (.iconst 0, 1), some (.istore_n 3, 1), some (.iload_n 3, 1), some (.aload_n 0, 1), some (.getfield 46, 3), none, none, some (.if_icmp .ge 21, 3), none, none, some (.aload_n 0, 1), some (.iload_n 3, 1), some (.iload_n 1, 1), some (.invokevirtual 153, 3)], [none, none, some (.ifCond .eq 6, 3), none, none, some (.iinc 2 1, 3), none, none, some (.iinc 3 1, 3), none, none, some (.goto (-23), 3), none, none, some (.iload_n 2, 1), some (.ireturn, 1)]]
/-- X5_grumblersAt -/
def jv_c75 : List (List jv_I) := [[some (.iconst 0, 1), some (.istore_n 2, 1), some (.iconst 0, 1), some (.istore_n 3, 1), some (.iload_n 3, 1), some (.aload_n 0, 1), some (.getfield 46, 3), none, none, some (.if_icmp .ge 29, 3), none, none, some (.aload_n 0, 1), some (.iload_n 3, 1), some (.iload_n 1, 1), some (.invokevirtual 153, 3)], [none, none, some (.ifCond .eq 14, 3), none, none, some (.aload_n 0, 1), some (.iload_n 3, 1), some (.invokevirtual 147, 3), none, none, some (.ifCond .ge 6, 3), none, none, some (.iinc 2 1, 3), none, none], [some (.iinc 3 1, 3), none, none, some (.goto (-31), 3), none, none, some (.iload_n 2, 1), some (.ireturn, 1)]]
/-- X5_sumOfJoysAt -/
def jv_c76 : List (List jv_I) := [[some (.iconst 0, 1), some (.istore_n 2, 1), some (.iconst 0, 1), some (.istore_n 3, 1), some (.iload_n 3, 1), some (.aload_n 0, 1), some (.getfield 46, 3), none, none, some (.if_icmp .ge 26, 3), none, none, some (.aload_n 0, 1), some (.iload_n 3, 1), some (.iload_n 1, 1), some (.invokevirtual 153, 3)], [none, none, some (.ifCond .eq 11, 3), none, none, some (.iload_n 2, 1), some (.aload_n 0, 1), some (.iload_n 3, 1), some (.invokevirtual 147, 3), none, none, some (.iadd, 1), some (.istore_n 2, 1), some (.iinc 3 1, 3), none, none], [some (.goto (-28), 3), none, none, some (.iload_n 2, 1), some (.ireturn, 1)]]
/-- X5_greatestFamilyAt -/
def jv_c77 : List (List jv_I) := [[some (.iconst 0, 1), some (.istore_n 2, 1), some (.iconst 0, 1), some (.istore_n 3, 1), some (.iconst 1, 1), some (.istore 4, 2), none, some (.iload 4, 2), none, some (.bipush 9, 2), none, some (.if_icmp .gt 30, 3), none, none, some (.aload_n 0, 1), some (.iload_n 1, 1)], [some (.iload 4, 2), none, some (.invokevirtual 144, 3), none, none, some (.istore 5, 2), none, some (.iload 5, 2), none, some (.iload_n 3, 1), some (.if_icmp .le 9, 3), none, none, some (.iload 5, 2), none, some (.istore_n 3, 1)], [some (.iload 4, 2), none, some (.istore_n 2, 1), some (.iinc 4 1, 3), none, none, some (.goto (-31), 3), none, none, some (.iload_n 2, 1), some (.ireturn, 1)]]
/-- X5_membersOf -/
def jv_c78 : List (List jv_I) := [[some (.iconst 0, 1), some (.istore_n 2, 1), some (.iconst 0, 1), some (.istore_n 3, 1), some (.iload_n 3, 1), some (.iconst 5, 1), some (.if_icmp .ge 18, 3), none, none, some (.iload_n 2, 1), some (.aload_n 0, 1), some (.iload_n 3, 1), some (.iload_n 1, 1), some (.invokevirtual 144, 3), none, none], [some (.iadd, 1), some (.istore_n 2, 1), some (.iinc 3 1, 3), none, none, some (.goto (-17), 3), none, none, some (.iload_n 2, 1), some (.ireturn, 1)]]
/-- X5_tablesOf -/
def jv_c79 : List (List jv_I) := [[some (.iconst 0, 1), some (.istore_n 2, 1), some (.iconst 0, 1), some (.istore_n 3, 1), some (.iload_n 3, 1), some (.iconst 5, 1), some (.if_icmp .ge 21, 3), none, none, some (.aload_n 0, 1), some (.iload_n 3, 1), some (.iload_n 1, 1), some (.invokevirtual 144, 3), none, none, some (.ifCond .le 6, 3)], [none, none, some (.iinc 2 1, 3), none, none, some (.iinc 3 1, 3), none, none, some (.goto (-20), 3), none, none, some (.iload_n 2, 1), some (.ireturn, 1)]]
/-- X5_sumOfJoysOf -/
def jv_c80 : List (List jv_I) := [[some (.iconst 0, 1), some (.istore_n 2, 1), some (.iconst 0, 1), some (.istore_n 3, 1), some (.iload_n 3, 1), some (.aload_n 0, 1), some (.getfield 46, 3), none, none, some (.if_icmp .ge 29, 3), none, none, some (.aload_n 0, 1), some (.iload_n 3, 1), some (.invokevirtual 64, 3), none], [none, some (.getfield 97, 3), none, none, some (.iload_n 1, 1), some (.if_icmp .ne 11, 3), none, none, some (.iload_n 2, 1), some (.aload_n 0, 1), some (.iload_n 3, 1), some (.invokevirtual 147, 3), none, none, some (.iadd, 1), some (.istore_n 2, 1)], [some (.iinc 3 1, 3), none, none, some (.goto (-31), 3), none, none, some (.iload_n 2, 1), some (.ireturn, 1)]]
/-- X5_families -/
def jv_c81 : List (List jv_I) := [[some (.iconst 0, 1), some (.istore_n 1, 1), some (.iconst 1, 1), some (.istore_n 2, 1), some (.iload_n 2, 1), some (.bipush 9, 2), none, some (.if_icmp .gt 20, 3), none, none, some (.aload_n 0, 1), some (.iload_n 2, 1), some (.invokevirtual 156, 3), none, none, some (.ifCond .le 6, 3)], [none, none, some (.iinc 1 1, 3), none, none, some (.iinc 2 1, 3), none, none, some (.goto (-20), 3), none, none, some (.iload_n 1, 1), some (.ireturn, 1)]]
/-- X5_sumOfSweets -/
def jv_c82 : List (List jv_I) := [[some (.iconst 0, 1), some (.istore_n 1, 1), some (.iconst 0, 1), some (.istore_n 2, 1), some (.iload_n 2, 1), some (.aload_n 0, 1), some (.getfield 46, 3), none, none, some (.if_icmp .ge 20, 3), none, none, some (.iload_n 1, 1), some (.aload_n 0, 1), some (.iload_n 2, 1), some (.invokevirtual 64, 3)], [none, none, some (.getfield 159, 3), none, none, some (.iadd, 1), some (.istore_n 1, 1), some (.iinc 2 1, 3), none, none, some (.goto (-22), 3), none, none, some (.iload_n 1, 1), some (.ireturn, 1)]]
/-- X5_sitDown -/
def jv_c83 : List (List jv_I) := [[some (.aload_n 0, 1), some (.iload_n 1, 1), some (.invokevirtual 64, 3), none, none, some (.astore_n 3, 1), some (.aload_n 0, 1), some (.aload_n 3, 1), some (.iconst (-1), 1), some (.invokevirtual 100, 3), none, none, some (.aload_n 3, 1), some (.iload_n 2, 1), some (.putfield 83, 3), none], [none, some (.aload_n 0, 1), some (.aload_n 3, 1), some (.iconst 1, 1), some (.invokevirtual 100, 3), none, none, some (.return_, 1)]]
/-- X5_exchangeSeats -/
def jv_c84 : List (List jv_I) := [[some (.aload_n 0, 1), some (.iload_n 1, 1), some (.invokevirtual 64, 3), none, none, some (.getfield 83, 3), none, none, some (.istore_n 3, 1), some (.aload_n 0, 1), some (.iload_n 1, 1), some (.aload_n 0, 1), some (.iload_n 2, 1), some (.invokevirtual 64, 3), none, none], [some (.getfield 83, 3), none, none, some (.invokevirtual 162, 3), none, none, some (.aload_n 0, 1), some (.iload_n 2, 1), some (.iload_n 3, 1), some (.invokevirtual 162, 3), none, none, some (.return_, 1)]]
/-- X5_passSeats -/
def jv_c85 : List (List jv_I) := [[some (.aload_n 0, 1), some (.iload_n 1, 1), some (.invokevirtual 64, 3), none, none, some (.getfield 83, 3), none, none, some (.istore 4, 2), none, some (.aload_n 0, 1), some (.iload_n 1, 1), some (.aload_n 0, 1), some (.iload_n 2, 1), some (.invokevirtual 64, 3), none], [none, some (.getfield 83, 3), none, none, some (.invokevirtual 162, 3), none, none, some (.aload_n 0, 1), some (.iload_n 2, 1), some (.aload_n 0, 1), some (.iload_n 3, 1), some (.invokevirtual 64, 3), none, none, some (.getfield 83, 3), none], [none, some (.invokevirtual 162, 3), none, none, some (.aload_n 0, 1), some (.iload_n 3, 1), some (.iload 4, 2), none, some (.invokevirtual 162, 3), none, none, some (.return_, 1)]]
/-- X5_riseBySwap -/
def jv_c86 : List (List jv_I) := [[some (.aload_n 0, 1), some (.iload_n 1, 1), some (.invokevirtual 147, 3), none, none, some (.istore_n 3, 1), some (.aload_n 0, 1), some (.iload_n 1, 1), some (.iload_n 2, 1), some (.invokevirtual 166, 3), none, none, some (.aload_n 0, 1), some (.iload_n 1, 1), some (.invokevirtual 147, 3), none], [none, some (.iload_n 3, 1), some (.isub, 1), some (.istore 4, 2), none, some (.aload_n 0, 1), some (.iload_n 1, 1), some (.iload_n 2, 1), some (.invokevirtual 166, 3), none, none, some (.iload 4, 2), none, some (.ireturn, 1)]]
/-- X5_sumIfSwapped -/
def jv_c87 : List (List jv_I) := [[some (.aload_n 0, 1), some (.iload_n 1, 1), some (.iload_n 2, 1), some (.invokevirtual 166, 3), none, none, some (.aload_n 0, 1), some (.invokevirtual 169, 3), none, none, some (.istore_n 3, 1), some (.aload_n 0, 1), some (.iload_n 1, 1), some (.iload_n 2, 1), some (.invokevirtual 166, 3), none], [none, some (.iload_n 3, 1), some (.ireturn, 1)]]
/-- X5_swapReason -/
def jv_c88 : List (List jv_I) := [[some (.aload_n 0, 1), some (.iload_n 1, 1), some (.aload_n 0, 1), some (.iload_n 2, 1), some (.invokevirtual 64, 3), none, none, some (.getfield 83, 3), none, none, some (.invokevirtual 172, 3), none, none, some (.ifCond .eq 19, 3), none, none], [some (.aload_n 0, 1), some (.iload_n 2, 1), some (.aload_n 0, 1), some (.iload_n 1, 1), some (.invokevirtual 64, 3), none, none, some (.getfield 83, 3), none, none, some (.invokevirtual 172, 3), none, none, some (.ifCond .ne 5, 3), none, none], [some (.iconst 1, 1), some (.ireturn, 1), some (.aload_n 0, 1), some (.iload_n 1, 1), some (.invokevirtual 64, 3), none, none, some (.getfield 159, 3), none, none, some (.iload_n 3, 1), some (.if_icmp .ge 5, 3), none, none, some (.iconst 2, 1), some (.ireturn, 1)], [some (.aload_n 0, 1), some (.iload_n 1, 1), some (.invokevirtual 147, 3), none, none, some (.istore 4, 2), none, some (.aload_n 0, 1), some (.iload_n 2, 1), some (.invokevirtual 147, 3), none, none, some (.istore 5, 2), none, some (.aload_n 0, 1), some (.iload_n 1, 1)], [some (.iload_n 2, 1), some (.invokevirtual 166, 3), none, none, some (.aload_n 0, 1), some (.iload_n 1, 1), some (.invokevirtual 147, 3), none, none, some (.iload 4, 2), none, some (.isub, 1), some (.istore 6, 2), none, some (.aload_n 0, 1), some (.iload_n 2, 1)], [some (.invokevirtual 147, 3), none, none, some (.iload 5, 2), none, some (.isub, 1), some (.istore 7, 2), none, some (.aload_n 0, 1), some (.iload_n 1, 1), some (.iload_n 2, 1), some (.invokevirtual 166, 3), none, none, some (.iload 6, 2), none], [some (.iload_n 3, 1), some (.if_icmp .ge 5, 3), none, none, some (.iconst 3, 1), some (.ireturn, 1), some (.iload 7, 2), none, some (.iload_n 3, 1), some (.ineg, 1), some (.if_icmp .ge 7, 3), none, none, some (.iconst 4, 1), some (.goto 4, 3), none], [none, some (.iconst 0, 1), some (.ireturn, 1)]]
/-- X5_doSwap -/
def jv_c89 : List (List jv_I) := [[some (.aload_n 0, 1), some (.iload_n 1, 1), some (.iload_n 2, 1), some (.invokevirtual 166, 3), none, none, some (.aload_n 0, 1), some (.iload_n 1, 1), some (.invokevirtual 64, 3), none, none, some (.dup, 1), some (.getfield 159, 3), none, none, some (.iload_n 3, 1)], [some (.isub, 1), some (.putfield 159, 3), none, none, some (.aload_n 0, 1), some (.iload_n 2, 1), some (.invokevirtual 64, 3), none, none, some (.dup, 1), some (.getfield 159, 3), none, none, some (.iload_n 3, 1), some (.iadd, 1), some (.putfield 159, 3)], [none, none, some (.aload_n 0, 1), some (.dup, 1), some (.getfield 49, 3), none, none, some (.iconst 1, 1), some (.iadd, 1), some (.putfield 49, 3), none, none, some (.aload_n 0, 1), some (.dup, 1), some (.getfield 58, 3), none], [none, some (.iload_n 3, 1), some (.iadd, 1), some (.putfield 58, 3), none, none, some (.aload_n 0, 1), some (.getfield 29, 3), none, none, some (.iconst 1, 1), some (.bipush 100, 2), none, some (.iload_n 1, 1), some (.imul, 1), some (.iload_n 2, 1)], [some (.iadd, 1), some (.iload_n 3, 1), some (.invokevirtual 104, 3), none, none, some (.return_, 1)]]
/-- X5_moveReason -/
def jv_c90 : List (List jv_I) := [[some (.aload_n 0, 1), some (.iload_n 2, 1), some (.invokevirtual 175, 3), none, none, some (.ifCond .ne 5, 3), none, none, some (.iconst 5, 1), some (.ireturn, 1), some (.aload_n 0, 1), some (.iload_n 1, 1), some (.iload_n 2, 1), some (.invokevirtual 172, 3), none, none], [some (.ifCond .ne 5, 3), none, none, some (.iconst 1, 1), some (.ireturn, 1), some (.aload_n 0, 1), some (.iload_n 1, 1), some (.iload_n 2, 1), some (.invokevirtual 140, 3), none, none, some (.aload_n 0, 1), some (.iload_n 1, 1), some (.invokevirtual 147, 3), none, none], [some (.if_icmp .ge 8, 3), none, none, some (.bipush 6, 2), none, some (.goto 4, 3), none, none, some (.iconst 0, 1), some (.ireturn, 1)]]
/-- X5_doMove -/
def jv_c91 : List (List jv_I) := [[some (.aload_n 0, 1), some (.iload_n 1, 1), some (.invokevirtual 64, 3), none, none, some (.getfield 83, 3), none, none, some (.istore_n 3, 1), some (.aload_n 0, 1), some (.iload_n 1, 1), some (.iload_n 2, 1), some (.invokevirtual 162, 3), none, none, some (.aload_n 0, 1)], [some (.dup, 1), some (.getfield 52, 3), none, none, some (.iconst 1, 1), some (.iadd, 1), some (.putfield 52, 3), none, none, some (.aload_n 0, 1), some (.getfield 29, 3), none, none, some (.iconst 2, 1), some (.iload_n 1, 1), some (.iload_n 3, 1)], [some (.invokevirtual 104, 3), none, none, some (.return_, 1)]]
/-- X5_ringReason -/
def jv_c92 : List (List jv_I) := [[some (.aload_n 0, 1), some (.iload_n 1, 1), some (.aload_n 0, 1), some (.iload_n 2, 1), some (.invokevirtual 64, 3), none, none, some (.getfield 83, 3), none, none, some (.invokevirtual 172, 3), none, none, some (.ifCond .eq 35, 3), none, none], [some (.aload_n 0, 1), some (.iload_n 2, 1), some (.aload_n 0, 1), some (.iload_n 3, 1), some (.invokevirtual 64, 3), none, none, some (.getfield 83, 3), none, none, some (.invokevirtual 172, 3), none, none, some (.ifCond .eq 19, 3), none, none], [some (.aload_n 0, 1), some (.iload_n 3, 1), some (.aload_n 0, 1), some (.iload_n 1, 1), some (.invokevirtual 64, 3), none, none, some (.getfield 83, 3), none, none, some (.invokevirtual 172, 3), none, none, some (.ifCond .ne 5, 3), none, none], [some (.iconst 1, 1), some (.ireturn, 1), some (.aload_n 0, 1), some (.iload_n 1, 1), some (.invokevirtual 147, 3), none, none, some (.istore 4, 2), none, some (.aload_n 0, 1), some (.iload_n 2, 1), some (.invokevirtual 147, 3), none, none, some (.istore 5, 2), none], [some (.aload_n 0, 1), some (.iload_n 3, 1), some (.invokevirtual 147, 3), none, none, some (.istore 6, 2), none, some (.aload_n 0, 1), some (.iload_n 1, 1), some (.iload_n 2, 1), some (.iload_n 3, 1), some (.invokevirtual 178, 3), none, none, some (.aload_n 0, 1), some (.iload_n 1, 1)], [some (.invokevirtual 147, 3), none, none, some (.iload 4, 2), none, some (.if_icmp .lt 23, 3), none, none, some (.aload_n 0, 1), some (.iload_n 2, 1), some (.invokevirtual 147, 3), none, none, some (.iload 5, 2), none, some (.if_icmp .lt 13, 3)], [none, none, some (.aload_n 0, 1), some (.iload_n 3, 1), some (.invokevirtual 147, 3), none, none, some (.iload 6, 2), none, some (.if_icmp .ge 7, 3), none, none, some (.iconst 1, 1), some (.goto 4, 3), none, none], [some (.iconst 0, 1), some (.istore 7, 2), none, some (.aload_n 0, 1), some (.iload_n 3, 1), some (.iload_n 2, 1), some (.iload_n 1, 1), some (.invokevirtual 178, 3), none, none, some (.iload 7, 2), none, some (.ifCond .eq 8, 3), none, none, some (.bipush 6, 2)], [none, some (.goto 4, 3), none, none, some (.iconst 0, 1), some (.ireturn, 1)]]
/-- X5_riseByRing -/
def jv_c93 : List (List jv_I) := [[some (.aload_n 0, 1), some (.iload_n 1, 1), some (.invokevirtual 147, 3), none, none, some (.aload_n 0, 1), some (.iload_n 2, 1), some (.invokevirtual 147, 3), none, none, some (.iadd, 1), some (.aload_n 0, 1), some (.iload_n 3, 1), some (.invokevirtual 147, 3), none, none], [some (.iadd, 1), some (.istore 4, 2), none, some (.aload_n 0, 1), some (.iload_n 1, 1), some (.iload_n 2, 1), some (.iload_n 3, 1), some (.invokevirtual 178, 3), none, none, some (.aload_n 0, 1), some (.iload_n 1, 1), some (.invokevirtual 147, 3), none, none, some (.aload_n 0, 1)], [some (.iload_n 2, 1), some (.invokevirtual 147, 3), none, none, some (.iadd, 1), some (.aload_n 0, 1), some (.iload_n 3, 1), some (.invokevirtual 147, 3), none, none, some (.iadd, 1), some (.iload 4, 2), none, some (.isub, 1), some (.istore 5, 2), none], [some (.aload_n 0, 1), some (.iload_n 3, 1), some (.iload_n 2, 1), some (.iload_n 1, 1), some (.invokevirtual 178, 3), none, none, some (.iload 5, 2), none, some (.ireturn, 1)]]
/-- X5_doRing -/
def jv_c94 : List (List jv_I) := [[some (.aload_n 0, 1), some (.iload_n 1, 1), some (.iload_n 2, 1), some (.iload_n 3, 1), some (.invokevirtual 178, 3), none, none, some (.aload_n 0, 1), some (.dup, 1), some (.getfield 55, 3), none, none, some (.iconst 1, 1), some (.iadd, 1), some (.putfield 55, 3), none], [none, some (.aload_n 0, 1), some (.getfield 29, 3), none, none, some (.iconst 3, 1), some (.sipush 10000, 3), none, none, some (.iload_n 1, 1), some (.imul, 1), some (.bipush 100, 2), none, some (.iload_n 2, 1), some (.imul, 1), some (.iadd, 1)], [some (.iload_n 3, 1), some (.iadd, 1), some (.iconst 0, 1), some (.invokevirtual 104, 3), none, none, some (.return_, 1)]]
/-- X5_risingRings -/
def jv_c95 : List (List jv_I) := [[some (.iconst 0, 1), some (.istore_n 1, 1), some (.iconst 0, 1), some (.istore_n 2, 1), some (.iload_n 2, 1), some (.aload_n 0, 1), some (.getfield 46, 3), none, none, some (.if_icmp .ge 78, 3), none, none, some (.iload_n 2, 1), some (.iconst 1, 1), some (.iadd, 1), some (.istore_n 3, 1)], [some (.iload_n 3, 1), some (.aload_n 0, 1), some (.getfield 46, 3), none, none, some (.if_icmp .ge 60, 3), none, none, some (.iload_n 2, 1), some (.iconst 1, 1), some (.iadd, 1), some (.istore 4, 2), none, some (.iload 4, 2), none, some (.aload_n 0, 1)], [some (.getfield 46, 3), none, none, some (.if_icmp .ge 40, 3), none, none, some (.iload_n 3, 1), some (.iload 4, 2), none, some (.if_icmp .eq 28, 3), none, none, some (.aload_n 0, 1), some (.iload_n 2, 1), some (.iload_n 3, 1), some (.iload 4, 2)], [none, some (.invokevirtual 181, 3), none, none, some (.ifCond .ne 17, 3), none, none, some (.aload_n 0, 1), some (.iload_n 2, 1), some (.iload_n 3, 1), some (.iload 4, 2), none, some (.invokevirtual 185, 3), none, none, some (.ifCond .le 6, 3)], [none, none, some (.iinc 1 1, 3), none, none, some (.iinc 4 1, 3), none, none, some (.goto (-43), 3), none, none, some (.iinc 3 1, 3), none, none, some (.goto (-62), 3), none], [none, some (.iinc 2 1, 3), none, none, some (.goto (-80), 3), none, none, some (.iload_n 1, 1), some (.ireturn, 1)]]
/-- X5_bestSeatFor -/
def jv_c96 : List (List jv_I) := [[some (.bipush (-2), 2), none, some (.istore_n 2, 1), some (.iconst 0, 1), some (.istore_n 3, 1), some (.iconst 0, 1), some (.istore 4, 2), none, some (.iload 4, 2), none, some (.aload_n 0, 1), some (.invokevirtual 75, 3), none, none, some (.if_icmp .ge 46, 3), none], [none, some (.aload_n 0, 1), some (.iload_n 1, 1), some (.iload 4, 2), none, some (.invokevirtual 188, 3), none, none, some (.ifCond .ne 30, 3), none, none, some (.aload_n 0, 1), some (.iload_n 1, 1), some (.iload 4, 2), none, some (.invokevirtual 140, 3)], [none, none, some (.istore 5, 2), none, some (.iload_n 2, 1), some (.bipush (-2), 2), none, some (.if_icmp .eq 9, 3), none, none, some (.iload 5, 2), none, some (.iload_n 3, 1), some (.if_icmp .le 9, 3), none, none], [some (.iload 4, 2), none, some (.istore_n 2, 1), some (.iload 5, 2), none, some (.istore_n 3, 1), some (.iinc 4 1, 3), none, none, some (.goto (-49), 3), none, none, some (.iload_n 2, 1), some (.ireturn, 1)]]
/-- X5_partnerFor -/
def jv_c97 : List (List jv_I) := [[some (.bipush (-2), 2), none, some (.istore_n 2, 1), some (.iconst 0, 1), some (.istore_n 3, 1), some (.iconst 0, 1), some (.istore 4, 2), none, some (.iload 4, 2), none, some (.aload_n 0, 1), some (.getfield 46, 3), none, none, some (.if_icmp .ge 47, 3), none], [none, some (.iload 4, 2), none, some (.iload_n 1, 1), some (.if_icmp .eq 35, 3), none, none, some (.aload_n 0, 1), some (.iload_n 1, 1), some (.iload 4, 2), none, some (.iconst 0, 1), some (.invokevirtual 191, 3), none, none, some (.ifCond .ne 24, 3)], [none, none, some (.aload_n 0, 1), some (.iload_n 1, 1), some (.iload 4, 2), none, some (.invokevirtual 194, 3), none, none, some (.istore 5, 2), none, some (.iload 5, 2), none, some (.iload_n 3, 1), some (.if_icmp .le 9, 3), none], [none, some (.iload 4, 2), none, some (.istore_n 2, 1), some (.iload 5, 2), none, some (.istore_n 3, 1), some (.iinc 4 1, 3), none, none, some (.goto (-50), 3), none, none, some (.iload_n 2, 1), some (.ireturn, 1)]]
/-- X5_settleOnce -/
def jv_c98 : List (List jv_I) := [[some (.aload_n 0, 1), some (.invokevirtual 169, 3), none, none, some (.istore_n 1, 1), some (.bipush (-2), 2), none, some (.istore_n 2, 1), some (.bipush (-2), 2), none, some (.istore_n 3, 1), some (.iconst 0, 1), some (.istore 4, 2), none, some (.iload 4, 2), none], [some (.aload_n 0, 1), some (.getfield 46, 3), none, none, some (.if_icmp .ge 82, 3), none, none, some (.iload 4, 2), none, some (.iconst 1, 1), some (.iadd, 1), some (.istore 5, 2), none, some (.iload 5, 2), none, some (.aload_n 0, 1)], [some (.getfield 46, 3), none, none, some (.if_icmp .ge 61, 3), none, none, some (.aload_n 0, 1), some (.iload 4, 2), none, some (.iload 5, 2), none, some (.iconst 0, 1), some (.invokevirtual 191, 3), none, none, some (.ifCond .eq 6, 3)], [none, none, some (.goto 40, 3), none, none, some (.aload_n 0, 1), some (.iload 4, 2), none, some (.iload 5, 2), none, some (.invokevirtual 166, 3), none, none, some (.aload_n 0, 1), some (.invokevirtual 169, 3), none], [none, some (.istore 6, 2), none, some (.aload_n 0, 1), some (.iload 4, 2), none, some (.iload 5, 2), none, some (.invokevirtual 166, 3), none, none, some (.iload 6, 2), none, some (.iload_n 1, 1), some (.if_icmp .le 12, 3), none], [none, some (.iload 6, 2), none, some (.istore_n 1, 1), some (.iload 4, 2), none, some (.istore_n 2, 1), some (.iload 5, 2), none, some (.istore_n 3, 1), some (.iinc 5 1, 3), none, none, some (.goto (-64), 3), none, none], [some (.iinc 4 1, 3), none, none, some (.goto (-85), 3), none, none, some (.iload_n 2, 1), some (.bipush (-2), 2), none, some (.if_icmp .ne 5, 3), none, none, some (.iconst 0, 1), some (.ireturn, 1), some (.aload_n 0, 1), some (.iload_n 2, 1)], [some (.iload_n 3, 1), some (.invokevirtual 166, 3), none, none, some (.iconst 1, 1), some (.ireturn, 1)]]
/-- X5_planSign -/
def jv_c99 : List (List jv_I) := [[some (.iload_n 2, 1), some (.lookupswitch 69 #[(0, 35), (1, 51), (6, 66)], 35), none, none, none, none, none, none, none, none, none, none, none, none, none, none], [none, none, none, none, none, none, none, none, none, none, none, none, none, none, none, none], [none, none, none, none, some (.iload_n 1, 1), some (.aload_n 0, 1), some (.getfield 37, 3), none, none, some (.if_icmp .ge 8, 3), none, none, some (.bipush 61, 2), none, some (.goto 5, 3), none], [none, some (.bipush 45, 2), none, some (.ireturn, 1), some (.iload_n 1, 1), some (.invokestatic 133, 3), none, none, some (.ifCond .eq 8, 3), none, none, some (.bipush 62, 2), none, some (.goto 5, 3), none, none], [some (.bipush 60, 2), none, some (.ireturn, 1), some (.bipush 10, 2), none, some (.ireturn, 1), some (.aload_n 0, 1), some (.iload_n 1, 1), some (.iconst 4, 1), some (.imul, 1), some (.iload_n 2, 1), some (.iadd, 1), some (.iconst 2, 1), some (.isub, 1), some (.invokevirtual 197, 3), none], [none, some (.ireturn, 1)]]
/-- X5_seatSign -/
def jv_c100 : List (List jv_I) := [[some (.aload_n 0, 1), some (.iload_n 1, 1), some (.invokevirtual 86, 3), none, none, some (.istore_n 2, 1), some (.iload_n 2, 1), some (.bipush (-2), 2), none, some (.if_icmp .ne 6, 3), none, none, some (.bipush 46, 2), none, some (.ireturn, 1), some (.aload_n 0, 1)], [some (.iload_n 2, 1), some (.invokevirtual 147, 3), none, none, some (.ifCond .ge 8, 3), none, none, some (.bipush 65, 2), none, some (.goto 5, 3), none, none, some (.bipush 97, 2), none, some (.aload_n 0, 1), some (.iload_n 2, 1)], [some (.invokevirtual 64, 3), none, none, some (.iconst 0, 1), some (.invokevirtual 200, 3), none, none, some (.iadd, 1), some (.iconst 1, 1), some (.isub, 1), some (.ireturn, 1)]]
/-- X6_init -/
def jv_c101 : List (List jv_I) := [[some (.aload_n 0, 1), some (.invokespecial 3, 3), none, none, some (.return_, 1)]]
/-- X6_clear -/
def jv_c102 : List (List jv_I) := [[some (.aload_n 0, 1), some (.iconst 0, 1), some (.putfield 9, 3), none, none, some (.aload_n 0, 1), some (.iconst 0, 1), some (.putfield 15, 3), none, none, some (.aload_n 0, 1), some (.iconst 0, 1), some (.putfield 18, 3), none, none, some (.aload_n 0, 1)], [some (.iconst 0, 1), some (.putfield 21, 3), none, none, some (.aload_n 0, 1), some (.iconst 0, 1), some (.putfield 24, 3), none, none, some (.aload_n 0, 1), some (.iconst 0, 1), some (.putfield 27, 3), none, none, some (.aload_n 0, 1), some (.iconst 0, 1)], [some (.putfield 30, 3), none, none, some (.aload_n 0, 1), some (.iconst 0, 1), some (.putfield 33, 3), none, none, some (.aload_n 0, 1), some (.iconst 0, 1), some (.putfield 36, 3), none, none, some (.aload_n 0, 1), some (.bipush 99, 2), none], [some (.putfield 39, 3), none, none, some (.return_, 1)]]
/-- X6_copyFrom -/
def jv_c103 : List (List jv_I) := [[some (.aload_n 0, 1), some (.aload_n 1, 1), some (.getfield 9, 3), none, none, some (.putfield 9, 3), none, none, some (.aload_n 0, 1), some (.aload_n 1, 1), some (.getfield 15, 3), none, none, some (.putfield 15, 3), none, none], [some (.aload_n 0, 1), some (.aload_n 1, 1), some (.getfield 18, 3), none, none, some (.putfield 18, 3), none, none, some (.aload_n 0, 1), some (.aload_n 1, 1), some (.getfield 21, 3), none, none, some (.putfield 21, 3), none, none], [some (.aload_n 0, 1), some (.aload_n 1, 1), some (.getfield 24, 3), none, none, some (.putfield 24, 3), none, none, some (.aload_n 0, 1), some (.aload_n 1, 1), some (.getfield 27, 3), none, none, some (.putfield 27, 3), none, none], [some (.aload_n 0, 1), some (.aload_n 1, 1), some (.getfield 30, 3), none, none, some (.putfield 30, 3), none, none, some (.aload_n 0, 1), some (.aload_n 1, 1), some (.getfield 33, 3), none, none, some (.putfield 33, 3), none, none], [some (.aload_n 0, 1), some (.aload_n 1, 1), some (.getfield 36, 3), none, none, some (.putfield 36, 3), none, none, some (.aload_n 0, 1), some (.aload_n 1, 1), some (.getfield 39, 3), none, none, some (.putfield 39, 3), none, none], [some (.return_, 1)]]
/-- X6_settable -/
def jv_c104 : List (List jv_I) := [[some (.iload_n 1, 1), some (.tableswitch 51 0 3 #[31, 36, 41, 46], 31), none, none, none, none, none, none, none, none, none, none, none, none, none, none], [none, none, none, none, none, none, none, none, none, none, none, none, none, none, none, none], [some (.aload_n 0, 1), some (.getfield 24, 3), none, none, some (.ireturn, 1), some (.aload_n 0, 1), some (.getfield 27, 3), none, none, some (.ireturn, 1), some (.aload_n 0, 1), some (.getfield 30, 3), none, none, some (.ireturn, 1), some (.aload_n 0, 1)], [some (.getfield 33, 3), none, none, some (.ireturn, 1), some (.aload_n 0, 1), some (.getfield 18, 3), none, none, some (.ireturn, 1)]]
/-- X6_change -/
def jv_c105 : List (List jv_I) := [[some (.iload_n 1, 1), some (.tableswitch 63 0 3 #[31, 39, 47, 55], 31), none, none, none, none, none, none, none, none, none, none, none, none, none, none], [none, none, none, none, none, none, none, none, none, none, none, none, none, none, none, none], [some (.aload_n 0, 1), some (.iload_n 2, 1), some (.putfield 24, 3), none, none, some (.goto 32, 3), none, none, some (.aload_n 0, 1), some (.iload_n 2, 1), some (.putfield 27, 3), none, none, some (.goto 24, 3), none, none], [some (.aload_n 0, 1), some (.iload_n 2, 1), some (.putfield 30, 3), none, none, some (.goto 16, 3), none, none, some (.aload_n 0, 1), some (.iload_n 2, 1), some (.putfield 33, 3), none, none, some (.goto 8, 3), none, none], [some (.aload_n 0, 1), some (.iload_n 2, 1), some (.putfield 18, 3), none, none, some (.return_, 1)]]
/-- X6_letterAt -/
def jv_c106 : List (List jv_I) := [[some (.iload_n 1, 1), some (.iconst 5, 1), some (.if_icmp .ge 17, 3), none, none, some (.aload_n 0, 1), some (.getfield 9, 3), none, none, some (.iconst 5, 1), some (.iload_n 1, 1), some (.imul, 1), some (.ishr, 1), some (.bipush 31, 2), none, some (.iand, 1)], [some (.goto 4, 3), none, none, some (.iconst 0, 1), some (.ireturn, 1)]]
/-- X7_init -/
def jv_c107 : List (List jv_I) := [[some (.aload_n 0, 1), some (.invokespecial 1, 3), none, none, some (.aload_n 0, 1), some (.new 7, 3), none, none, some (.dup, 1), some (.invokespecial 9, 3), none, none, some (.putfield 10, 3), none, none, some (.aload_n 0, 1)], [some (.aload_n 0, 1), some (.getfield 10, 3), none, none, some (.getfield 16, 3), none, none, some (.putfield 20, 3), none, none, some (.aload_n 0, 1), some (.new 21, 3), none, none, some (.dup, 1), some (.invokespecial 23, 3)], [none, none, some (.putfield 24, 3), none, none, some (.aload_n 0, 1), some (.new 28, 3), none, none, some (.dup, 1), some (.invokespecial 30, 3), none, none, some (.putfield 31, 3), none, none], [some (.aload_n 0, 1), some (.new 28, 3), none, none, some (.dup, 1), some (.invokespecial 30, 3), none, none, some (.putfield 35, 3), none, none, some (.aload_n 0, 1), some (.new 38, 3), none, none, some (.dup, 1)], [some (.invokespecial 40, 3), none, none, some (.putfield 41, 3), none, none, some (.aload_n 0, 1), some (.iconst 2, 1), some (.anewarray 28, 3), none, none, some (.putfield 45, 3), none, none, some (.iconst 0, 1), some (.istore_n 1, 1)], [some (.iload_n 1, 1), some (.iconst 2, 1), some (.if_icmp .ge 22, 3), none, none, some (.aload_n 0, 1), some (.getfield 45, 3), none, none, some (.iload_n 1, 1), some (.new 28, 3), none, none, some (.dup, 1), some (.invokespecial 30, 3), none], [none, some (.aastore, 1), some (.iinc 1 1, 3), none, none, some (.goto (-21), 3), none, none, some (.aload_n 0, 1), some (.iconst 2, 1), some (.newarray .boolean, 2), none, some (.putfield 49, 3), none, none, some (.aload_n 0, 1)], [some (.new 53, 3), none, none, some (.dup, 1), some (.invokespecial 55, 3), none, none, some (.putfield 56, 3), none, none, some (.aload_n 0, 1), some (.bipush (-2), 2), none, some (.putfield 60, 3), none, none], [some (.return_, 1)]]
/-- X7_append -/
def jv_c108 : List (List jv_I) := [[some (.aload_n 0, 1), some (.getfield 20, 3), none, none, some (.invokevirtual 64, 3), none, none, some (.ifCond .ne 5, 3), none, none, some (.iconst (-1), 1), some (.ireturn, 1), some (.aload_n 0, 1), some (.getfield 20, 3), none, none], [some (.iload_n 1, 1), some (.invokevirtual 70, 3), none, none, some (.aload_n 0, 1), some (.getfield 20, 3), none, none, some (.iload_n 2, 1), some (.invokevirtual 70, 3), none, none, some (.aload_n 0, 1), some (.getfield 20, 3), none, none], [some (.iload_n 3, 1), some (.invokevirtual 70, 3), none, none, some (.aload_n 0, 1), some (.getfield 20, 3), none, none, some (.iload 4, 2), none, some (.invokevirtual 70, 3), none, none, some (.aload_n 0, 1), some (.getfield 20, 3), none], [none, some (.iload 5, 2), none, some (.invokevirtual 70, 3), none, none, some (.aload_n 0, 1), some (.getfield 20, 3), none, none, some (.getfield 74, 3), none, none, some (.ireturn, 1)]]
/-- X7_truncate -/
def jv_c109 : List (List jv_I) := [[some (.iload_n 1, 1), some (.iconst 0, 1), some (.aload_n 0, 1), some (.getfield 20, 3), none, none, some (.getfield 74, 3), none, none, some (.invokestatic 77, 3), none, none, some (.ifCond .ne 5, 3), none, none, some (.iconst (-1), 1)], [some (.ireturn, 1), some (.aload_n 0, 1), some (.getfield 20, 3), none, none, some (.dup, 1), some (.getfield 74, 3), none, none, some (.iload_n 1, 1), some (.isub, 1), some (.putfield 74, 3), none, none, some (.aload_n 0, 1), some (.getfield 20, 3)], [none, none, some (.getfield 74, 3), none, none, some (.ireturn, 1)]]
/-- X7_load -/
def jv_c110 : List (List jv_I) := [[some (.aload_n 0, 1), some (.getfield 10, 3), none, none, some (.aload_n 0, 1), some (.getfield 35, 3), none, none, some (.invokevirtual 81, 3), none, none, some (.istore_n 1, 1), some (.aload_n 0, 1), some (.iload_n 1, 1), some (.ifCond .eq 8, 3), none], [none, some (.bipush (-2), 2), none, some (.goto 10, 3), none, none, some (.aload_n 0, 1), some (.getfield 10, 3), none, none, some (.getfield 85, 3), none, none, some (.putfield 60, 3), none, none], [some (.aload_n 0, 1), some (.getfield 20, 3), none, none, some (.iconst 0, 1), some (.putfield 74, 3), none, none, some (.iload_n 1, 1), some (.ifCond .ne 5, 3), none, none, some (.iconst (-1), 1), some (.ireturn, 1), some (.aload_n 0, 1), some (.getfield 31, 3)], [none, none, some (.aload_n 0, 1), some (.getfield 35, 3), none, none, some (.invokevirtual 88, 3), none, none, some (.iconst 0, 1), some (.istore_n 2, 1), some (.iload_n 2, 1), some (.iconst 2, 1), some (.if_icmp .ge 16, 3), none, none], [some (.aload_n 0, 1), some (.getfield 49, 3), none, none, some (.iload_n 2, 1), some (.iconst 0, 1), some (.bastore, 1), some (.iinc 2 1, 3), none, none, some (.goto (-15), 3), none, none, some (.aload_n 0, 1), some (.getfield 56, 3), none], [none, some (.invokevirtual 92, 3), none, none, some (.aload_n 0, 1), some (.getfield 31, 3), none, none, some (.getfield 95, 3), none, none, some (.ireturn, 1)]]
/-- X7_errorPosition -/
def jv_c111 : List (List jv_I) := [[some (.aload_n 0, 1), some (.getfield 60, 3), none, none, some (.ireturn, 1)]]
/-- X7_come -/
def jv_c112_0 : List (List jv_I) := [[some (.aload_n 0, 1), some (.getfield 31, 3), none, none, some (.iload_n 1, 1), some (.invokevirtual 98, 3), none, none, some (.ifCond .eq 54, 3), none, none, some (.iload_n 2, 1), some (.iconst 0, 1), some (.iconst 1, 1), some (.invokestatic 77, 3), none], [none, some (.ifCond .eq 45, 3), none, none, some (.iload_n 3, 1), some (.iconst 0, 1), some (.bipush 9, 2), none, some (.invokestatic 77, 3), none, none, some (.ifCond .eq 35, 3), none, none, some (.iload 4, 2), none], [some (.iconst 0, 1), some (.bipush 99, 2), none, some (.invokestatic 77, 3), none, none, some (.ifCond .eq 24, 3), none, none, some (.iload 5, 2), none, some (.iconst 1, 1), some (.bipush 99, 2), none, some (.invokestatic 77, 3), none], [none, some (.ifCond .eq 13, 3), none, none, some (.aload_n 0, 1), some (.getfield 10, 3), none, none, some (.invokevirtual 102, 3), none, none, some (.ifCond .ne 5, 3), none, none, some (.iconst (-1), 1), some (.ireturn, 1)], [some (.aload_n 0, 1), some (.getfield 31, 3), none, none, some (.getfield 95, 3), none, none, some (.bipush 20, 2), none, some (.if_icmp .lt 6, 3), none, none, some (.bipush (-3), 2), none, some (.ireturn, 1), some (.aload_n 0, 1)], [some (.getfield 31, 3), none, none, some (.iload_n 1, 1), some (.invokevirtual 105, 3), none, none, some (.ifCond .eq 15, 3), none, none, some (.aload_n 0, 1), some (.getfield 31, 3), none, none, some (.iload_n 2, 1), some (.iload_n 1, 1)], [some (.invokevirtual 108, 3), none, none, some (.ifCond .ne 6, 3), none, none, some (.bipush (-4), 2), none, some (.ireturn, 1), some (.aload_n 0, 1), some (.getfield 56, 3), none, none, some (.aload_n 0, 1), some (.getfield 31, 3), none], [none, some (.invokevirtual 112, 3), none, none, some (.aload_n 0, 1), some (.getfield 41, 3), none, none, some (.invokevirtual 115, 3), none, none, some (.aload_n 0, 1), some (.getfield 41, 3), none, none, some (.aload_n 0, 1)], [some (.getfield 10, 3), none, none, some (.invokevirtual 118, 3), none, none, some (.putfield 122, 3), none, none, some (.aload_n 0, 1), some (.getfield 41, 3), none, none, some (.iload_n 1, 1), some (.putfield 125, 3), none], [none, some (.aload_n 0, 1), some (.getfield 41, 3), none, none, some (.iload_n 2, 1), some (.putfield 128, 3), none, none, some (.aload_n 0, 1), some (.getfield 41, 3), none, none, some (.iload_n 3, 1), some (.putfield 131, 3), none], [none, some (.aload_n 0, 1), some (.getfield 41, 3), none, none, some (.iload 4, 2), none, some (.putfield 134, 3), none, none, some (.aload_n 0, 1), some (.getfield 41, 3), none, none, some (.iload 5, 2), none], [some (.putfield 137, 3), none, none, some (.aload_n 0, 1), some (.getfield 31, 3), none, none, some (.getfield 95, 3), none, none, some (.istore 6, 2), none, some (.aload_n 0, 1), some (.getfield 31, 3), none, none]]
def jv_c112_1 : List (List jv_I) := [[some (.aload_n 0, 1), some (.getfield 41, 3), none, none, some (.invokevirtual 140, 3), none, none, some (.aload_n 0, 1), some (.getfield 31, 3), none, none, some (.getfield 144, 3), none, none, some (.iconst 0, 1), some (.iload 6, 2)], [none, some (.iload_n 1, 1), some (.invokevirtual 150, 3), none, none, some (.aload_n 0, 1), some (.getfield 20, 3), none, none, some (.iconst 0, 1), some (.putfield 74, 3), none, none, some (.iload 6, 2), none, some (.ireturn, 1)]]
def jv_c112 : List (List jv_I) := jv_c112_0 ++ jv_c112_1
/-- X7_set -/
def jv_c113 : List (List jv_I) := [[some (.aload_n 0, 1), some (.getfield 31, 3), none, none, some (.iload_n 1, 1), some (.invokevirtual 154, 3), none, none, some (.ifCond .eq 15, 3), none, none, some (.aload_n 0, 1), some (.getfield 31, 3), none, none, some (.iload_n 2, 1)], [some (.iload_n 3, 1), some (.invokevirtual 157, 3), none, none, some (.ifCond .ne 5, 3), none, none, some (.iconst (-1), 1), some (.ireturn, 1), some (.aload_n 0, 1), some (.getfield 31, 3), none, none, some (.iload_n 1, 1), some (.invokevirtual 160, 3), none], [none, some (.astore 4, 2), none, some (.aload 4, 2), none, some (.iload_n 2, 1), some (.invokevirtual 164, 3), none, none, some (.istore 5, 2), none, some (.iload 5, 2), none, some (.iload_n 3, 1), some (.if_icmp .ne 6, 3), none], [none, some (.bipush (-2), 2), none, some (.ireturn, 1), some (.iload_n 2, 1), some (.iconst 4, 1), some (.if_icmp .ne 22, 3), none, none, some (.aload_n 0, 1), some (.getfield 31, 3), none, none, some (.iload_n 3, 1), some (.aload 4, 2), none], [some (.getfield 125, 3), none, none, some (.invokevirtual 108, 3), none, none, some (.ifCond .ne 6, 3), none, none, some (.bipush (-4), 2), none, some (.ireturn, 1), some (.aload_n 0, 1), some (.getfield 56, 3), none, none], [some (.aload_n 0, 1), some (.getfield 31, 3), none, none, some (.invokevirtual 112, 3), none, none, some (.aload 4, 2), none, some (.iload_n 2, 1), some (.iload_n 3, 1), some (.invokevirtual 168, 3), none, none, some (.aload_n 0, 1), some (.getfield 31, 3)], [none, none, some (.getfield 144, 3), none, none, some (.bipush 6, 2), none, some (.bipush 10, 2), none, some (.iload_n 1, 1), some (.imul, 1), some (.iload_n 2, 1), some (.iadd, 1), some (.iload 5, 2), none, some (.invokevirtual 150, 3)], [none, none, some (.iload_n 2, 1), some (.ifCond .eq 8, 3), none, none, some (.iload_n 2, 1), some (.iconst 1, 1), some (.if_icmp .ne 7, 3), none, none, some (.iconst 1, 1), some (.goto 4, 3), none, none, some (.iconst 0, 1)], [some (.istore 6, 2), none, some (.iload 6, 2), none, some (.ifCond .eq 11, 3), none, none, some (.iload 5, 2), none, some (.bipush 9, 2), none, some (.iadd, 1), some (.goto 5, 3), none, none, some (.iload 5, 2)], [none, some (.ireturn, 1)]]
/-- X7_first -/
def jv_c114 : List (List jv_I) := [[some (.iload_n 1, 1), some (.iconst 0, 1), some (.aload_n 0, 1), some (.getfield 31, 3), none, none, some (.getfield 172, 3), none, none, some (.invokestatic 77, 3), none, none, some (.ifCond .ne 5, 3), none, none, some (.iconst (-1), 1)], [some (.ireturn, 1), some (.aload_n 0, 1), some (.getfield 31, 3), none, none, some (.getfield 175, 3), none, none, some (.istore_n 2, 1), some (.iload_n 1, 1), some (.iload_n 2, 1), some (.if_icmp .ne 6, 3), none, none, some (.bipush (-2), 2), none], [some (.ireturn, 1), some (.aload_n 0, 1), some (.getfield 31, 3), none, none, some (.iload_n 1, 1), some (.invokevirtual 178, 3), none, none, some (.ifCond .le 6, 3), none, none, some (.bipush (-4), 2), none, some (.ireturn, 1), some (.aload_n 0, 1)], [some (.getfield 56, 3), none, none, some (.aload_n 0, 1), some (.getfield 31, 3), none, none, some (.invokevirtual 112, 3), none, none, some (.aload_n 0, 1), some (.getfield 31, 3), none, none, some (.iload_n 1, 1), some (.putfield 175, 3)], [none, none, some (.aload_n 0, 1), some (.getfield 31, 3), none, none, some (.getfield 144, 3), none, none, some (.bipush 7, 2), none, some (.iconst 0, 1), some (.iload_n 2, 1), some (.invokevirtual 150, 3), none, none], [some (.iload_n 2, 1), some (.ireturn, 1)]]
/-- X7_swap -/
def jv_c115 : List (List jv_I) := [[some (.aload_n 0, 1), some (.iload_n 1, 1), some (.iload_n 2, 1), some (.invokevirtual 181, 3), none, none, some (.ifCond .eq 13, 3), none, none, some (.iload_n 3, 1), some (.iconst 0, 1), some (.bipush 9, 2), none, some (.invokestatic 77, 3), none, none], [some (.ifCond .ne 5, 3), none, none, some (.iconst (-1), 1), some (.ireturn, 1), some (.aload_n 0, 1), some (.getfield 31, 3), none, none, some (.iload_n 1, 1), some (.iload_n 2, 1), some (.iload_n 3, 1), some (.invokevirtual 184, 3), none, none, some (.istore 4, 2)], [none, some (.iload 4, 2), none, some (.ifCond .eq 9, 3), none, none, some (.iload 4, 2), none, some (.invokestatic 188, 3), none, none, some (.ireturn, 1), some (.aload_n 0, 1), some (.getfield 31, 3), none, none], [some (.iload_n 1, 1), some (.iload_n 2, 1), some (.invokevirtual 191, 3), none, none, some (.aload_n 0, 1), some (.getfield 31, 3), none, none, some (.iload_n 2, 1), some (.iload_n 1, 1), some (.invokevirtual 191, 3), none, none, some (.iadd, 1), some (.istore 5, 2)], [none, some (.aload_n 0, 1), some (.getfield 56, 3), none, none, some (.aload_n 0, 1), some (.getfield 31, 3), none, none, some (.invokevirtual 112, 3), none, none, some (.aload_n 0, 1), some (.getfield 31, 3), none, none], [some (.iload_n 1, 1), some (.iload_n 2, 1), some (.iload_n 3, 1), some (.invokevirtual 195, 3), none, none, some (.iload 5, 2), none, some (.bipush 100, 2), none, some (.iadd, 1), some (.ireturn, 1)]]
/-- X7_move -/
def jv_c116 : List (List jv_I) := [[some (.aload_n 0, 1), some (.getfield 31, 3), none, none, some (.iload_n 1, 1), some (.invokevirtual 154, 3), none, none, some (.ifCond .eq 14, 3), none, none, some (.aload_n 0, 1), some (.getfield 31, 3), none, none, some (.iload_n 2, 1)], [some (.invokevirtual 98, 3), none, none, some (.ifCond .ne 5, 3), none, none, some (.iconst (-1), 1), some (.ireturn, 1), some (.aload_n 0, 1), some (.getfield 31, 3), none, none, some (.iload_n 1, 1), some (.iload_n 2, 1), some (.invokevirtual 198, 3), none], [none, some (.istore_n 3, 1), some (.iload_n 3, 1), some (.ifCond .eq 8, 3), none, none, some (.iload_n 3, 1), some (.invokestatic 188, 3), none, none, some (.ireturn, 1), some (.aload_n 0, 1), some (.getfield 31, 3), none, none, some (.iload_n 1, 1)], [some (.iload_n 2, 1), some (.invokevirtual 201, 3), none, none, some (.aload_n 0, 1), some (.getfield 31, 3), none, none, some (.iload_n 1, 1), some (.invokevirtual 204, 3), none, none, some (.isub, 1), some (.istore 4, 2), none, some (.aload_n 0, 1)], [some (.getfield 56, 3), none, none, some (.aload_n 0, 1), some (.getfield 31, 3), none, none, some (.invokevirtual 112, 3), none, none, some (.aload_n 0, 1), some (.getfield 31, 3), none, none, some (.iload_n 1, 1), some (.iload_n 2, 1)], [some (.invokevirtual 207, 3), none, none, some (.iload 4, 2), none, some (.ireturn, 1)]]
/-- X7_ring -/
def jv_c117 : List (List jv_I) := [[some (.aload_n 0, 1), some (.iload_n 1, 1), some (.iload_n 2, 1), some (.invokevirtual 181, 3), none, none, some (.ifCond .eq 17, 3), none, none, some (.aload_n 0, 1), some (.iload_n 2, 1), some (.iload_n 3, 1), some (.invokevirtual 181, 3), none, none, some (.ifCond .eq 8, 3)], [none, none, some (.iload_n 1, 1), some (.iload_n 3, 1), some (.if_icmp .ne 5, 3), none, none, some (.iconst (-1), 1), some (.ireturn, 1), some (.aload_n 0, 1), some (.getfield 31, 3), none, none, some (.iload_n 1, 1), some (.iload_n 2, 1), some (.iload_n 3, 1)], [some (.invokevirtual 210, 3), none, none, some (.istore 4, 2), none, some (.iload 4, 2), none, some (.ifCond .eq 9, 3), none, none, some (.iload 4, 2), none, some (.invokestatic 188, 3), none, none, some (.ireturn, 1)], [some (.aload_n 0, 1), some (.getfield 31, 3), none, none, some (.iload_n 1, 1), some (.iload_n 2, 1), some (.iload_n 3, 1), some (.invokevirtual 213, 3), none, none, some (.istore 5, 2), none, some (.aload_n 0, 1), some (.getfield 56, 3), none, none], [some (.aload_n 0, 1), some (.getfield 31, 3), none, none, some (.invokevirtual 112, 3), none, none, some (.aload_n 0, 1), some (.getfield 31, 3), none, none, some (.iload_n 1, 1), some (.iload_n 2, 1), some (.iload_n 3, 1), some (.invokevirtual 216, 3), none], [none, some (.iload 5, 2), none, some (.ireturn, 1)]]
/-- X7_settle -/
def jv_c118 : List (List jv_I) := [[some (.aload_n 0, 1), some (.invokevirtual 219, 3), none, none, some (.istore_n 1, 1), some (.iload_n 1, 1), some (.ifCond .ne 6, 3), none, none, some (.bipush (-2), 2), none, some (.ireturn, 1), some (.aload_n 0, 1), some (.getfield 35, 3), none, none], [some (.invokevirtual 222, 3), none, none, some (.aload_n 0, 1), some (.getfield 31, 3), none, none, some (.invokevirtual 222, 3), none, none, some (.isub, 1), some (.istore_n 2, 1), some (.aload_n 0, 1), some (.getfield 56, 3), none, none], [some (.aload_n 0, 1), some (.getfield 31, 3), none, none, some (.invokevirtual 112, 3), none, none, some (.aload_n 0, 1), some (.getfield 31, 3), none, none, some (.aload_n 0, 1), some (.getfield 35, 3), none, none, some (.invokevirtual 88, 3)], [none, none, some (.aload_n 0, 1), some (.getfield 31, 3), none, none, some (.dup, 1), some (.getfield 225, 3), none, none, some (.iload_n 1, 1), some (.iadd, 1), some (.putfield 225, 3), none, none, some (.aload_n 0, 1)], [some (.getfield 31, 3), none, none, some (.getfield 144, 3), none, none, some (.iconst 5, 1), some (.iload_n 1, 1), some (.iload_n 2, 1), some (.invokevirtual 150, 3), none, none, some (.iload_n 1, 1), some (.ireturn, 1)]]
/-- X7_station -/
def jv_c119 : List (List jv_I) := [[some (.iload_n 1, 1), some (.iconst 1, 1), some (.bipush 50, 2), none, some (.invokestatic 77, 3), none, none, some (.ifCond .ne 5, 3), none, none, some (.iconst (-1), 1), some (.ireturn, 1), some (.aload_n 0, 1), some (.getfield 31, 3), none, none], [some (.getfield 228, 3), none, none, some (.iload_n 1, 1), some (.iadd, 1), some (.sipush 999, 3), none, none, some (.if_icmp .le 6, 3), none, none, some (.bipush (-3), 2), none, some (.ireturn, 1), some (.aload_n 0, 1), some (.getfield 56, 3)], [none, none, some (.aload_n 0, 1), some (.getfield 31, 3), none, none, some (.invokevirtual 112, 3), none, none, some (.aload_n 0, 1), some (.getfield 31, 3), none, none, some (.getfield 95, 3), none, none], [some (.istore_n 2, 1), some (.iconst 0, 1), some (.istore_n 3, 1), some (.iload_n 3, 1), some (.iload_n 1, 1), some (.if_icmp .ge 16, 3), none, none, some (.aload_n 0, 1), some (.getfield 31, 3), none, none, some (.invokevirtual 231, 3), none, none, some (.iinc 3 1, 3)], [none, none, some (.goto (-15), 3), none, none, some (.iload_n 2, 1), some (.aload_n 0, 1), some (.getfield 31, 3), none, none, some (.getfield 95, 3), none, none, some (.isub, 1), some (.ireturn, 1)]]
/-- X7_keep -/
def jv_c120 : List (List jv_I) := [[some (.iload_n 1, 1), some (.iconst 0, 1), some (.iconst 1, 1), some (.invokestatic 77, 3), none, none, some (.ifCond .ne 5, 3), none, none, some (.iconst (-1), 1), some (.ireturn, 1), some (.aload_n 0, 1), some (.getfield 45, 3), none, none, some (.iload_n 1, 1)], [some (.aaload, 1), some (.aload_n 0, 1), some (.getfield 31, 3), none, none, some (.invokevirtual 88, 3), none, none, some (.aload_n 0, 1), some (.getfield 49, 3), none, none, some (.iload_n 1, 1), some (.iconst 1, 1), some (.bastore, 1), some (.aload_n 0, 1)], [some (.getfield 31, 3), none, none, some (.getfield 95, 3), none, none, some (.ireturn, 1)]]
/-- X7_restore -/
def jv_c121 : List (List jv_I) := [[some (.iload_n 1, 1), some (.iconst 0, 1), some (.iconst 1, 1), some (.invokestatic 77, 3), none, none, some (.ifCond .ne 5, 3), none, none, some (.iconst (-1), 1), some (.ireturn, 1), some (.aload_n 0, 1), some (.getfield 49, 3), none, none, some (.iload_n 1, 1)], [some (.baload, 1), some (.ifCond .ne 6, 3), none, none, some (.bipush (-2), 2), none, some (.ireturn, 1), some (.aload_n 0, 1), some (.getfield 56, 3), none, none, some (.aload_n 0, 1), some (.getfield 31, 3), none, none, some (.invokevirtual 112, 3)], [none, none, some (.aload_n 0, 1), some (.getfield 31, 3), none, none, some (.aload_n 0, 1), some (.getfield 45, 3), none, none, some (.iload_n 1, 1), some (.aaload, 1), some (.invokevirtual 88, 3), none, none, some (.aload_n 0, 1)], [some (.getfield 31, 3), none, none, some (.getfield 95, 3), none, none, some (.ireturn, 1)]]
/-- X7_undo -/
def jv_c122 : List (List jv_I) := [[some (.aload_n 0, 1), some (.getfield 56, 3), none, none, some (.getfield 234, 3), none, none, some (.ifCond .ne 5, 3), none, none, some (.iconst (-1), 1), some (.ireturn, 1), some (.aload_n 0, 1), some (.getfield 56, 3), none, none], [some (.aload_n 0, 1), some (.getfield 31, 3), none, none, some (.invokevirtual 235, 3), none, none, some (.aload_n 0, 1), some (.getfield 56, 3), none, none, some (.getfield 234, 3), none, none, some (.ireturn, 1)]]
/-- X7_value -/
def jv_c123_0 : List (List jv_I) := [[some (.iload_n 1, 1), some (.tableswitch 234 0 16 #[83, 91, 99, 107, 115, 131, 143, 151, 159, 167, 175, 183, 191, 199, 207, 215, 226], 83), none, none, none, none, none, none, none, none, none, none, none, none, none, none], [none, none, none, none, none, none, none, none, none, none, none, none, none, none, none, none], [none, none, none, none, none, none, none, none, none, none, none, none, none, none, none, none], [none, none, none, none, none, none, none, none, none, none, none, none, none, none, none, none], [none, none, none, none, none, none, none, none, none, none, none, none, none, none, none, none], [none, none, none, none, some (.aload_n 0, 1), some (.getfield 31, 3), none, none, some (.getfield 172, 3), none, none, some (.ireturn, 1), some (.aload_n 0, 1), some (.getfield 31, 3), none, none], [some (.getfield 175, 3), none, none, some (.ireturn, 1), some (.aload_n 0, 1), some (.getfield 31, 3), none, none, some (.getfield 228, 3), none, none, some (.ireturn, 1), some (.aload_n 0, 1), some (.getfield 31, 3), none, none], [some (.getfield 95, 3), none, none, some (.ireturn, 1), some (.aload_n 0, 1), some (.getfield 31, 3), none, none, some (.invokevirtual 238, 3), none, none, some (.aload_n 0, 1), some (.getfield 31, 3), none, none, some (.getfield 95, 3)], [none, none, some (.isub, 1), some (.ireturn, 1), some (.aload_n 0, 1), some (.getfield 31, 3), none, none, some (.invokevirtual 222, 3), none, none, some (.sipush 10000, 3), none, none, some (.iadd, 1), some (.ireturn, 1)], [some (.aload_n 0, 1), some (.getfield 31, 3), none, none, some (.invokevirtual 241, 3), none, none, some (.ireturn, 1), some (.aload_n 0, 1), some (.getfield 31, 3), none, none, some (.invokevirtual 244, 3), none, none, some (.ireturn, 1)], [some (.aload_n 0, 1), some (.getfield 31, 3), none, none, some (.getfield 225, 3), none, none, some (.ireturn, 1), some (.aload_n 0, 1), some (.getfield 31, 3), none, none, some (.getfield 247, 3), none, none, some (.ireturn, 1)], [some (.aload_n 0, 1), some (.getfield 31, 3), none, none, some (.getfield 250, 3), none, none, some (.ireturn, 1), some (.aload_n 0, 1), some (.getfield 31, 3), none, none, some (.getfield 253, 3), none, none, some (.ireturn, 1)]]
def jv_c123_1 : List (List jv_I) := [[some (.aload_n 0, 1), some (.getfield 31, 3), none, none, some (.getfield 256, 3), none, none, some (.ireturn, 1), some (.aload_n 0, 1), some (.getfield 31, 3), none, none, some (.invokevirtual 259, 3), none, none, some (.ireturn, 1)], [some (.aload_n 0, 1), some (.getfield 31, 3), none, none, some (.invokevirtual 262, 3), none, none, some (.ireturn, 1), some (.aload_n 0, 1), some (.getfield 31, 3), none, none, some (.getfield 144, 3), none, none, some (.getfield 265, 3)], [none, none, some (.ireturn, 1), some (.aload_n 0, 1), some (.getfield 56, 3), none, none, some (.getfield 234, 3), none, none, some (.ireturn, 1), some (.iconst (-1), 1), some (.ireturn, 1)]]
def jv_c123 : List (List jv_I) := jv_c123_0 ++ jv_c123_1
/-- X7_of -/
def jv_c124 : List (List jv_I) := [[some (.aload_n 0, 1), some (.getfield 31, 3), none, none, some (.iload_n 1, 1), some (.invokevirtual 154, 3), none, none, some (.ifCond .ne 5, 3), none, none, some (.iconst (-1), 1), some (.ireturn, 1), some (.aload_n 0, 1), some (.getfield 31, 3), none], [none, some (.iload_n 1, 1), some (.invokevirtual 160, 3), none, none, some (.astore_n 3, 1), some (.iload_n 2, 1), some (.tableswitch 149 0 11 #[61, 66, 71, 76, 84, 92, 97, 102, 107, 112, 124, 140], 61), none, none, none, none, none, none, none, none], [none, none, none, none, none, none, none, none, none, none, none, none, none, none, none, none], [none, none, none, none, none, none, none, none, none, none, none, none, none, none, none, none], [none, none, none, none, none, none, none, none, none, none, none, none, none, none, none, none], [none, none, none, none, some (.aload_n 3, 1), some (.getfield 125, 3), none, none, some (.ireturn, 1), some (.aload_n 3, 1), some (.getfield 128, 3), none, none, some (.ireturn, 1), some (.aload_n 3, 1), some (.getfield 131, 3)], [none, none, some (.ireturn, 1), some (.aload_n 3, 1), some (.getfield 268, 3), none, none, some (.bipush 9, 2), none, some (.iadd, 1), some (.ireturn, 1), some (.aload_n 3, 1), some (.getfield 271, 3), none, none, some (.bipush 9, 2)], [none, some (.iadd, 1), some (.ireturn, 1), some (.aload_n 3, 1), some (.getfield 274, 3), none, none, some (.ireturn, 1), some (.aload_n 3, 1), some (.getfield 277, 3), none, none, some (.ireturn, 1), some (.aload_n 3, 1), some (.getfield 134, 3), none], [none, some (.ireturn, 1), some (.aload_n 3, 1), some (.getfield 137, 3), none, none, some (.ireturn, 1), some (.aload_n 0, 1), some (.getfield 31, 3), none, none, some (.iload_n 1, 1), some (.invokevirtual 204, 3), none, none, some (.bipush 100, 2)], [none, some (.iadd, 1), some (.ireturn, 1), some (.aload_n 0, 1), some (.getfield 31, 3), none, none, some (.aload_n 3, 1), some (.aload_n 3, 1), some (.getfield 125, 3), none, none, some (.bipush 8, 2), none, some (.idiv, 1), some (.invokevirtual 280, 3)], [none, none, some (.ireturn, 1), some (.aload_n 0, 1), some (.getfield 31, 3), none, none, some (.iload_n 1, 1), some (.invokevirtual 284, 3), none, none, some (.ireturn, 1), some (.iconst (-1), 1), some (.ireturn, 1)]]
/-- X7_letter -/
def jv_c125 : List (List jv_I) := [[some (.aload_n 0, 1), some (.getfield 31, 3), none, none, some (.iload_n 1, 1), some (.invokevirtual 154, 3), none, none, some (.ifCond .eq 7, 3), none, none, some (.iload_n 2, 1), some (.ifCond .ge 5, 3), none, none, some (.iconst (-1), 1)], [some (.ireturn, 1), some (.aload_n 0, 1), some (.getfield 31, 3), none, none, some (.iload_n 1, 1), some (.invokevirtual 160, 3), none, none, some (.iload_n 2, 1), some (.invokevirtual 287, 3), none, none, some (.istore_n 3, 1), some (.iload_n 3, 1), some (.ifCond .ne 8, 3)], [none, none, some (.bipush (-2), 2), none, some (.goto 4, 3), none, none, some (.iload_n 3, 1), some (.ireturn, 1)]]
/-- X7_at -/
def jv_c126 : List (List jv_I) := [[some (.aload_n 0, 1), some (.getfield 31, 3), none, none, some (.iload_n 1, 1), some (.invokevirtual 98, 3), none, none, some (.ifCond .eq 14, 3), none, none, some (.aload_n 0, 1), some (.getfield 31, 3), none, none, some (.iload_n 1, 1)], [some (.invokevirtual 290, 3), none, none, some (.goto 4, 3), none, none, some (.iconst (-1), 1), some (.ireturn, 1)]]
/-- X7_table -/
def jv_c127 : List (List jv_I) := [[some (.iload_n 1, 1), some (.iconst 0, 1), some (.aload_n 0, 1), some (.getfield 31, 3), none, none, some (.invokevirtual 259, 3), none, none, some (.iconst 1, 1), some (.isub, 1), some (.invokestatic 77, 3), none, none, some (.ifCond .ne 5, 3), none], [none, some (.iconst (-1), 1), some (.ireturn, 1), some (.iload_n 2, 1), some (.tableswitch 72 0 3 #[32, 41, 50, 63], 32), none, none, none, none, none, none, none, none, none, none, none], [none, none, none, none, none, none, none, none, none, none, none, none, none, none, none, none], [none, none, none, none, some (.aload_n 0, 1), some (.getfield 31, 3), none, none, some (.iload_n 1, 1), some (.invokevirtual 293, 3), none, none, some (.ireturn, 1), some (.aload_n 0, 1), some (.getfield 31, 3), none], [none, some (.iload_n 1, 1), some (.invokevirtual 296, 3), none, none, some (.ireturn, 1), some (.aload_n 0, 1), some (.getfield 31, 3), none, none, some (.iload_n 1, 1), some (.invokevirtual 299, 3), none, none, some (.sipush 1000, 3), none], [none, some (.iadd, 1), some (.ireturn, 1), some (.aload_n 0, 1), some (.getfield 31, 3), none, none, some (.iload_n 1, 1), some (.invokevirtual 302, 3), none, none, some (.ireturn, 1), some (.iconst (-1), 1), some (.ireturn, 1)]]
/-- X7_family -/
def jv_c128 : List (List jv_I) := [[some (.iload_n 1, 1), some (.iconst 1, 1), some (.bipush 9, 2), none, some (.invokestatic 77, 3), none, none, some (.ifCond .ne 5, 3), none, none, some (.iconst (-1), 1), some (.ireturn, 1), some (.iload_n 2, 1), some (.tableswitch 58 0 2 #[27, 36, 45], 27), none, none], [none, none, none, none, none, none, none, none, none, none, none, none, none, none, none, none], [none, none, none, none, none, none, none, none, some (.aload_n 0, 1), some (.getfield 31, 3), none, none, some (.iload_n 1, 1), some (.invokevirtual 305, 3), none, none], [some (.ireturn, 1), some (.aload_n 0, 1), some (.getfield 31, 3), none, none, some (.iload_n 1, 1), some (.invokevirtual 308, 3), none, none, some (.ireturn, 1), some (.aload_n 0, 1), some (.getfield 31, 3), none, none, some (.iload_n 1, 1), some (.invokevirtual 311, 3)], [none, none, some (.sipush 1000, 3), none, none, some (.iadd, 1), some (.ireturn, 1), some (.iconst (-1), 1), some (.ireturn, 1)]]
/-- X7_ranked -/
def jv_c129 : List (List jv_I) := [[some (.iload_n 1, 1), some (.ifCond .ge 7, 3), none, none, some (.iconst (-1), 1), some (.goto 11, 3), none, none, some (.aload_n 0, 1), some (.getfield 31, 3), none, none, some (.iload_n 1, 1), some (.invokevirtual 314, 3), none, none], [some (.ireturn, 1)]]
/-- X7_why -/
def jv_c130 : List (List jv_I) := [[some (.aload_n 0, 1), some (.iload_n 1, 1), some (.iload_n 2, 1), some (.invokevirtual 181, 3), none, none, some (.ifCond .eq 13, 3), none, none, some (.iload_n 3, 1), some (.iconst 0, 1), some (.bipush 9, 2), none, some (.invokestatic 77, 3), none, none], [some (.ifCond .ne 5, 3), none, none, some (.iconst (-1), 1), some (.ireturn, 1), some (.aload_n 0, 1), some (.getfield 31, 3), none, none, some (.iload_n 1, 1), some (.iload_n 2, 1), some (.iload_n 3, 1), some (.invokevirtual 184, 3), none, none, some (.ireturn, 1)]]
/-- X7_whyMove -/
def jv_c131 : List (List jv_I) := [[some (.aload_n 0, 1), some (.getfield 31, 3), none, none, some (.iload_n 1, 1), some (.invokevirtual 154, 3), none, none, some (.ifCond .eq 14, 3), none, none, some (.aload_n 0, 1), some (.getfield 31, 3), none, none, some (.iload_n 2, 1)], [some (.invokevirtual 98, 3), none, none, some (.ifCond .ne 5, 3), none, none, some (.iconst (-1), 1), some (.ireturn, 1), some (.aload_n 0, 1), some (.getfield 31, 3), none, none, some (.iload_n 1, 1), some (.iload_n 2, 1), some (.invokevirtual 198, 3), none], [none, some (.ireturn, 1)]]
/-- X7_joyAt -/
def jv_c132 : List (List jv_I) := [[some (.aload_n 0, 1), some (.getfield 31, 3), none, none, some (.iload_n 1, 1), some (.invokevirtual 154, 3), none, none, some (.ifCond .eq 14, 3), none, none, some (.aload_n 0, 1), some (.getfield 31, 3), none, none, some (.iload_n 2, 1)], [some (.invokevirtual 98, 3), none, none, some (.ifCond .ne 5, 3), none, none, some (.iconst (-1), 1), some (.ireturn, 1), some (.aload_n 0, 1), some (.getfield 31, 3), none, none, some (.iload_n 1, 1), some (.iload_n 2, 1), some (.invokevirtual 201, 3), none], [none, some (.bipush 100, 2), none, some (.iadd, 1), some (.ireturn, 1)]]
/-- X7_ifSwapped -/
def jv_c133 : List (List jv_I) := [[some (.aload_n 0, 1), some (.iload_n 1, 1), some (.iload_n 2, 1), some (.invokevirtual 181, 3), none, none, some (.ifCond .ne 5, 3), none, none, some (.iconst (-1), 1), some (.ireturn, 1), some (.iload_n 3, 1), some (.tableswitch 68 0 2 #[28, 41, 54], 28), none, none, none], [none, none, none, none, none, none, none, none, none, none, none, none, none, none, none, none], [none, none, none, none, none, none, none, none, some (.aload_n 0, 1), some (.getfield 31, 3), none, none, some (.iload_n 1, 1), some (.iload_n 2, 1), some (.invokevirtual 191, 3), none], [none, some (.bipush 100, 2), none, some (.iadd, 1), some (.ireturn, 1), some (.aload_n 0, 1), some (.getfield 31, 3), none, none, some (.iload_n 2, 1), some (.iload_n 1, 1), some (.invokevirtual 191, 3), none, none, some (.bipush 100, 2), none], [some (.iadd, 1), some (.ireturn, 1), some (.aload_n 0, 1), some (.getfield 31, 3), none, none, some (.iload_n 1, 1), some (.iload_n 2, 1), some (.invokevirtual 317, 3), none, none, some (.sipush 1000, 3), none, none, some (.iadd, 1), some (.ireturn, 1)], [some (.iconst (-1), 1), some (.ireturn, 1)]]
/-- X7_leastPrice -/
def jv_c134 : List (List jv_I) := [[some (.aload_n 0, 1), some (.iload_n 1, 1), some (.iload_n 2, 1), some (.invokevirtual 181, 3), none, none, some (.ifCond .ne 5, 3), none, none, some (.iconst (-1), 1), some (.ireturn, 1), some (.iconst 0, 1), some (.istore_n 3, 1), some (.iload_n 3, 1), some (.bipush 9, 2), none], [some (.if_icmp .gt 24, 3), none, none, some (.aload_n 0, 1), some (.getfield 31, 3), none, none, some (.iload_n 1, 1), some (.iload_n 2, 1), some (.iload_n 3, 1), some (.invokevirtual 184, 3), none, none, some (.ifCond .ne 5, 3), none, none], [some (.iload_n 3, 1), some (.ireturn, 1), some (.iinc 3 1, 3), none, none, some (.goto (-24), 3), none, none, some (.bipush (-2), 2), none, some (.ireturn, 1)]]
/-- X7_bestSeat -/
def jv_c135 : List (List jv_I) := [[some (.aload_n 0, 1), some (.getfield 31, 3), none, none, some (.iload_n 1, 1), some (.invokevirtual 154, 3), none, none, some (.ifCond .eq 14, 3), none, none, some (.aload_n 0, 1), some (.getfield 31, 3), none, none, some (.iload_n 1, 1)], [some (.invokevirtual 320, 3), none, none, some (.goto 4, 3), none, none, some (.iconst (-1), 1), some (.ireturn, 1)]]
/-- X7_partner -/
def jv_c136 : List (List jv_I) := [[some (.aload_n 0, 1), some (.getfield 31, 3), none, none, some (.iload_n 1, 1), some (.invokevirtual 154, 3), none, none, some (.ifCond .eq 14, 3), none, none, some (.aload_n 0, 1), some (.getfield 31, 3), none, none, some (.iload_n 1, 1)], [some (.invokevirtual 323, 3), none, none, some (.goto 4, 3), none, none, some (.iconst (-1), 1), some (.ireturn, 1)]]
/-- X7_rings -/
def jv_c137 : List (List jv_I) := [[some (.aload_n 0, 1), some (.getfield 31, 3), none, none, some (.invokevirtual 326, 3), none, none, some (.ireturn, 1)]]
/-- X7_ifSettled -/
def jv_c138 : List (List jv_I) := [[some (.iload_n 1, 1), some (.iconst 0, 1), some (.iconst 2, 1), some (.invokestatic 77, 3), none, none, some (.ifCond .ne 5, 3), none, none, some (.iconst (-1), 1), some (.ireturn, 1), some (.aload_n 0, 1), some (.invokevirtual 219, 3), none, none, some (.istore_n 2, 1)], [some (.iload_n 1, 1), some (.lookupswitch 41 #[(0, 27), (1, 29)], 27), none, none, none, none, none, none, none, none, none, none, none, none, none, none], [none, none, none, none, none, none, none, none, none, none, none, none, some (.iload_n 2, 1), some (.ireturn, 1), some (.aload_n 0, 1), some (.getfield 35, 3)], [none, none, some (.invokevirtual 222, 3), none, none, some (.sipush 10000, 3), none, none, some (.iadd, 1), some (.ireturn, 1), some (.aload_n 0, 1), some (.getfield 35, 3), none, none, some (.invokevirtual 241, 3), none], [none, some (.ireturn, 1)]]
/-- X7_ifFirst -/
def jv_c139 : List (List jv_I) := [[some (.iload_n 1, 1), some (.iconst 0, 1), some (.aload_n 0, 1), some (.getfield 31, 3), none, none, some (.getfield 172, 3), none, none, some (.invokestatic 77, 3), none, none, some (.ifCond .eq 14, 3), none, none, some (.aload_n 0, 1)], [some (.getfield 31, 3), none, none, some (.iload_n 1, 1), some (.invokevirtual 178, 3), none, none, some (.goto 4, 3), none, none, some (.iconst (-1), 1), some (.ireturn, 1)]]
/-- X7_log -/
def jv_c140 : List (List jv_I) := [[some (.iload_n 1, 1), some (.ifCond .lt 12, 3), none, none, some (.iload_n 2, 1), some (.iconst 0, 1), some (.iconst 2, 1), some (.invokestatic 77, 3), none, none, some (.ifCond .ne 5, 3), none, none, some (.iconst (-1), 1), some (.ireturn, 1), some (.aload_n 0, 1)], [some (.getfield 31, 3), none, none, some (.getfield 144, 3), none, none, some (.iload_n 1, 1), some (.iload_n 2, 1), some (.invokevirtual 329, 3), none, none, some (.ireturn, 1)]]
/-- X7_full -/
def jv_c141 : List (List jv_I) := [[some (.aload_n 0, 1), some (.getfield 31, 3), none, none, some (.invokevirtual 238, 3), none, none, some (.istore_n 1, 1), some (.iload_n 1, 1), some (.ifCond .le 17, 3), none, none, some (.aload_n 0, 1), some (.getfield 31, 3), none, none], [some (.getfield 95, 3), none, none, some (.i2f, 1), some (.iload_n 1, 1), some (.i2f, 1), some (.fdiv, 1), some (.goto 4, 3), none, none, some (.fconst 0, 1), some (.freturn, 1)]]
/-- X7_meanJoy -/
def jv_c142 : List (List jv_I) := [[some (.aload_n 0, 1), some (.getfield 31, 3), none, none, some (.getfield 95, 3), none, none, some (.ifCond .le 23, 3), none, none, some (.aload_n 0, 1), some (.getfield 31, 3), none, none, some (.invokevirtual 222, 3), none], [none, some (.i2d, 1), some (.aload_n 0, 1), some (.getfield 31, 3), none, none, some (.getfield 95, 3), none, none, some (.i2d, 1), some (.ddiv, 1), some (.goto 4, 3), none, none, some (.dconst 0, 1), some (.dreturn, 1)]]
/-- X7_planLength -/
def jv_c143 : List (List jv_I) := [[some (.aload_n 0, 1), some (.getfield 31, 3), none, none, some (.getfield 172, 3), none, none, some (.bipush 7, 2), none, some (.imul, 1), some (.ireturn, 1)]]
/-- X7_planByte -/
def jv_c144 : List (List jv_I) := [[some (.iload_n 1, 1), some (.ifCond .ge 5, 3), none, none, some (.iconst (-1), 1), some (.ireturn, 1), some (.iload_n 1, 1), some (.aload_n 0, 1), some (.invokevirtual 332, 3), none, none, some (.if_icmp .ge 21, 3), none, none, some (.aload_n 0, 1), some (.getfield 31, 3)], [none, none, some (.iload_n 1, 1), some (.bipush 7, 2), none, some (.idiv, 1), some (.iload_n 1, 1), some (.bipush 7, 2), none, some (.irem, 1), some (.invokevirtual 335, 3), none, none, some (.goto 5, 3), none, none], [some (.bipush (-2), 2), none, some (.ireturn, 1)]]
/-- X7_setupLength -/
def jv_c145 : List (List jv_I) := [[some (.aload_n 0, 1), some (.getfield 24, 3), none, none, some (.aload_n 0, 1), some (.getfield 31, 3), none, none, some (.bipush (-2), 2), none, some (.invokevirtual 338, 3), none, none, some (.aload_n 0, 1), some (.getfield 24, 3), none], [none, some (.getfield 342, 3), none, none, some (.ireturn, 1)]]
/-- X7_setupByte -/
def jv_c146 : List (List jv_I) := [[some (.iload_n 1, 1), some (.ifCond .ge 5, 3), none, none, some (.iconst (-1), 1), some (.ireturn, 1), some (.aload_n 0, 1), some (.getfield 24, 3), none, none, some (.aload_n 0, 1), some (.getfield 31, 3), none, none, some (.iload_n 1, 1), some (.invokevirtual 338, 3)], [none, none, some (.aload_n 0, 1), some (.getfield 24, 3), none, none, some (.getfield 343, 3), none, none, some (.ireturn, 1)]]
/-- X7_isIn -/
def jv_c147 : List (List jv_I) := [[some (.iload_n 0, 1), some (.iload_n 1, 1), some (.if_icmp .lt 12, 3), none, none, some (.iload_n 0, 1), some (.iload_n 2, 1), some (.if_icmp .gt 7, 3), none, none, some (.iconst 1, 1), some (.goto 4, 3), none, none, some (.iconst 0, 1), some (.ireturn, 1)]]
/-- X7_refusal -/
def jv_c148 : List (List jv_I) := [[some (.bipush (-10), 2), none, some (.iload_n 0, 1), some (.isub, 1), some (.ireturn, 1)]]
/-- X7_arePair -/
def jv_c149 : List (List jv_I) := [[some (.aload_n 0, 1), some (.getfield 31, 3), none, none, some (.iload_n 1, 1), some (.invokevirtual 154, 3), none, none, some (.ifCond .eq 23, 3), none, none, some (.aload_n 0, 1), some (.getfield 31, 3), none, none, some (.iload_n 2, 1)], [some (.invokevirtual 154, 3), none, none, some (.ifCond .eq 12, 3), none, none, some (.iload_n 1, 1), some (.iload_n 2, 1), some (.if_icmp .eq 7, 3), none, none, some (.iconst 1, 1), some (.goto 4, 3), none, none, some (.iconst 0, 1)], [some (.ireturn, 1)]]
/-- X7_settleDraft -/
def jv_c150 : List (List jv_I) := [[some (.aload_n 0, 1), some (.getfield 35, 3), none, none, some (.aload_n 0, 1), some (.getfield 31, 3), none, none, some (.invokevirtual 88, 3), none, none, some (.iconst 0, 1), some (.istore_n 1, 1), some (.iload_n 1, 1), some (.bipush 99, 2), none], [some (.if_icmp .ge 21, 3), none, none, some (.aload_n 0, 1), some (.getfield 35, 3), none, none, some (.invokevirtual 346, 3), none, none, some (.ifCond .ne 5, 3), none, none, some (.iload_n 1, 1), some (.ireturn, 1), some (.iinc 1 1, 3)], [none, none, some (.goto (-21), 3), none, none, some (.bipush 99, 2), none, some (.ireturn, 1)]]
/-- X8_init -/
def jv_c151 : List (List jv_I) := [[some (.aload_n 0, 1), some (.invokespecial 1, 3), none, none, some (.aload_n 0, 1), some (.sipush 330, 3), none, none, some (.newarray .int, 2), none, some (.putfield 7, 3), none, none, some (.aload_n 0, 1), some (.sipush 330, 3), none], [none, some (.newarray .int, 2), none, some (.putfield 13, 3), none, none, some (.aload_n 0, 1), some (.sipush 330, 3), none, none, some (.newarray .int, 2), none, some (.putfield 16, 3), none, none, some (.aload_n 0, 1)], [some (.sipush 2640, 3), none, none, some (.newarray .int, 2), none, some (.putfield 19, 3), none, none, some (.aload_n 0, 1), some (.sipush 660, 3), none, none, some (.newarray .int, 2), none, some (.putfield 22, 3), none], [none, some (.aload_n 0, 1), some (.iconst 2, 1), some (.newarray .boolean, 2), none, some (.putfield 25, 3), none, none, some (.aload_n 0, 1), some (.sipush 1000, 3), none, none, some (.newarray .int, 2), none, some (.putfield 29, 3), none], [none, some (.aload_n 0, 1), some (.bipush (-2), 2), none, some (.putfield 32, 3), none, none, some (.aload_n 0, 1), some (.sipush 1700, 3), none, none, some (.newarray .int, 2), none, some (.putfield 36, 3), none, none], [some (.aload_n 0, 1), some (.getfield 7, 3), none, none, some (.iconst 0, 1), some (.iconst 4, 1), some (.iastore, 1), some (.aload_n 0, 1), some (.getfield 7, 3), none, none, some (.iconst 1, 1), some (.iconst 1, 1), some (.iastore, 1), some (.return_, 1)]]
/-- X8_in -/
def jv_c152 : List (List jv_I) := [[some (.iload_n 1, 1), some (.iload_n 0, 1), some (.if_icmp .gt 12, 3), none, none, some (.iload_n 0, 1), some (.iload_n 2, 1), some (.if_icmp .gt 7, 3), none, none, some (.iconst 1, 1), some (.goto 4, 3), none, none, some (.iconst 0, 1), some (.ireturn, 1)]]
/-- X8_layRow -/
def jv_c153 : List (List jv_I) := [[some (.iconst 0, 1), some (.istore 4, 2), none, some (.iload 4, 2), none, some (.sipush 330, 3), none, none, some (.if_icmp .ge 21, 3), none, none, some (.aload_n 2, 1), some (.iload_n 3, 1), some (.iload 4, 2), none, some (.iadd, 1)], [some (.aload_n 0, 1), some (.iload_n 1, 1), some (.iload 4, 2), none, some (.iadd, 1), some (.iaload, 1), some (.iastore, 1), some (.iinc 4 1, 3), none, none, some (.goto (-23), 3), none, none, some (.return_, 1)]]
/-- X8_takesSpare -/
def jv_c154 : List (List jv_I) := [[some (.aload_n 0, 1), some (.getfield 7, 3), none, none, some (.iconst 0, 1), some (.aload_n 0, 1), some (.getfield 16, 3), none, none, some (.iconst 0, 1), some (.invokestatic 42, 3), none, none, some (.return_, 1)]]
/-- X8_numberAt -/
def jv_c155 : List (List jv_I) := [[some (.bipush 9, 2), none, some (.bipush 10, 2), none, some (.iload_n 0, 1), some (.imul, 1), some (.iadd, 1), some (.iload_n 1, 1), some (.iadd, 1), some (.ireturn, 1)]]
/-- X8_isTraveller -/
def jv_c156 : List (List jv_I) := [[some (.iload_n 1, 1), some (.iconst 0, 1), some (.aload_n 0, 1), some (.getfield 7, 3), none, none, some (.iconst 3, 1), some (.iaload, 1), some (.iconst 1, 1), some (.isub, 1), some (.invokestatic 46, 3), none, none, some (.ireturn, 1)]]
/-- X8_isSeat -/
def jv_c157 : List (List jv_I) := [[some (.iload_n 1, 1), some (.iconst 0, 1), some (.iconst 4, 1), some (.aload_n 0, 1), some (.getfield 7, 3), none, none, some (.iconst 0, 1), some (.iaload, 1), some (.imul, 1), some (.iconst 1, 1), some (.isub, 1), some (.invokestatic 46, 3), none, none, some (.ireturn, 1)]]
/-- X8_isPair -/
def jv_c158 : List (List jv_I) := [[some (.aload_n 0, 1), some (.iload_n 1, 1), some (.invokevirtual 50, 3), none, none, some (.ifCond .eq 20, 3), none, none, some (.aload_n 0, 1), some (.iload_n 2, 1), some (.invokevirtual 50, 3), none, none, some (.ifCond .eq 12, 3), none, none], [some (.iload_n 1, 1), some (.iload_n 2, 1), some (.if_icmp .eq 7, 3), none, none, some (.iconst 1, 1), some (.goto 4, 3), none, none, some (.iconst 0, 1), some (.ireturn, 1)]]
/-- X8_isPaid -/
def jv_c159 : List (List jv_I) := [[some (.iload_n 0, 1), some (.iconst 0, 1), some (.bipush 9, 2), none, some (.invokestatic 46, 3), none, none, some (.ireturn, 1)]]
/-- X8_rowOf -/
def jv_c160 : List (List jv_I) := [[some (.iload_n 0, 1), some (.iconst 4, 1), some (.idiv, 1), some (.ireturn, 1)]]
/-- X8_tableOf -/
def jv_c161 : List (List jv_I) := [[some (.iload_n 0, 1), some (.bipush 8, 2), none, some (.idiv, 1), some (.ireturn, 1)]]
/-- X8_isWindow -/
def jv_c162 : List (List jv_I) := [[some (.iload_n 0, 1), some (.iconst 4, 1), some (.irem, 1), some (.ifCond .eq 10, 3), none, none, some (.iload_n 0, 1), some (.iconst 4, 1), some (.irem, 1), some (.iconst 3, 1), some (.if_icmp .ne 7, 3), none, none, some (.iconst 1, 1), some (.goto 4, 3), none], [none, some (.iconst 0, 1), some (.ireturn, 1)]]
/-- X8_isForward -/
def jv_c163 : List (List jv_I) := [[some (.iload_n 0, 1), some (.iconst 2, 1), some (.irem, 1), some (.iconst 1, 1), some (.if_icmp .ne 7, 3), none, none, some (.iconst 1, 1), some (.goto 4, 3), none, none, some (.iconst 0, 1), some (.ireturn, 1)]]
/-- X8_tablesOf -/
def jv_c164 : List (List jv_I) := [[some (.aload_n 0, 1), some (.iconst 0, 1), some (.iaload, 1), some (.iconst 1, 1), some (.iadd, 1), some (.iconst 2, 1), some (.idiv, 1), some (.ireturn, 1)]]
/-- X8_whoHas -/
def jv_c165 : List (List jv_I) := [[some (.iconst 0, 1), some (.istore_n 2, 1), some (.iload_n 2, 1), some (.aload_n 0, 1), some (.iconst 3, 1), some (.iaload, 1), some (.if_icmp .ge 22, 3), none, none, some (.aload_n 0, 1), some (.iload_n 2, 1), some (.iconst 0, 1), some (.invokestatic 54, 3), none, none, some (.iaload, 1)], [some (.iload_n 1, 1), some (.if_icmp .ne 5, 3), none, none, some (.iload_n 2, 1), some (.ireturn, 1), some (.iinc 2 1, 3), none, none, some (.goto (-23), 3), none, none, some (.bipush (-2), 2), none, some (.ireturn, 1)]]
/-- X8_mayUse -/
def jv_c166 : List (List jv_I) := [[some (.iload_n 0, 1), some (.iconst 1, 1), some (.if_icmp .eq 11, 3), none, none, some (.iload_n 1, 1), some (.invokestatic 58, 3), none, none, some (.iload_n 2, 1), some (.if_icmp .lt 7, 3), none, none, some (.iconst 1, 1), some (.goto 4, 3), none], [none, some (.iconst 0, 1), some (.ireturn, 1)]]
/-- X8_maySit -/
def jv_c167 : List (List jv_I) := [[some (.aload_n 0, 1), some (.iload_n 1, 1), some (.iconst 1, 1), some (.invokestatic 54, 3), none, none, some (.iaload, 1), some (.iload_n 2, 1), some (.aload_n 0, 1), some (.iconst 1, 1), some (.iaload, 1), some (.invokestatic 62, 3), none, none, some (.ireturn, 1)]]
/-- X8_kinAt -/
def jv_c168 : List (List jv_I) := [[some (.iconst 0, 1), some (.istore_n 3, 1), some (.aload_n 0, 1), some (.iload_n 1, 1), some (.iconst 2, 1), some (.invokestatic 54, 3), none, none, some (.iaload, 1), some (.istore 4, 2), none, some (.iconst 0, 1), some (.istore 5, 2), none, some (.iload 5, 2), none], [some (.aload_n 0, 1), some (.iconst 3, 1), some (.iaload, 1), some (.if_icmp .ge 51, 3), none, none, some (.iload 5, 2), none, some (.iload_n 1, 1), some (.if_icmp .eq 39, 3), none, none, some (.iload 4, 2), none, some (.ifCond .le 34, 3), none], [none, some (.aload_n 0, 1), some (.iload 5, 2), none, some (.iconst 2, 1), some (.invokestatic 54, 3), none, none, some (.iaload, 1), some (.iload 4, 2), none, some (.if_icmp .ne 21, 3), none, none, some (.aload_n 0, 1), some (.iload 5, 2)], [none, some (.iconst 0, 1), some (.invokestatic 54, 3), none, none, some (.iaload, 1), some (.invokestatic 65, 3), none, none, some (.iload_n 2, 1), some (.if_icmp .ne 6, 3), none, none, some (.iinc 3 1, 3), none, none], [some (.iinc 5 1, 3), none, none, some (.goto (-53), 3), none, none, some (.iload_n 3, 1), some (.ireturn, 1)]]
/-- X8_joyIn -/
def jv_c169 : List (List jv_I) := [[some (.iconst 4, 1), some (.aload_n 0, 1), some (.iload_n 1, 1), some (.iload_n 2, 1), some (.invokestatic 65, 3), none, none, some (.invokestatic 68, 3), none, none, some (.imul, 1), some (.istore_n 3, 1), some (.iload_n 2, 1), some (.invokestatic 58, 3), none, none], [some (.aload_n 0, 1), some (.iload_n 1, 1), some (.iconst 5, 1), some (.invokestatic 54, 3), none, none, some (.iaload, 1), some (.isub, 1), some (.istore 4, 2), none, some (.iload_n 2, 1), some (.invokestatic 72, 3), none, none, some (.ifCond .eq 13, 3), none], [none, some (.iload_n 3, 1), some (.aload_n 0, 1), some (.iload_n 1, 1), some (.iconst 3, 1), some (.invokestatic 54, 3), none, none, some (.iaload, 1), some (.iadd, 1), some (.istore_n 3, 1), some (.iload_n 2, 1), some (.invokestatic 58, 3), none, none, some (.invokestatic 75, 3)], [none, none, some (.ifCond .eq 13, 3), none, none, some (.iload_n 3, 1), some (.aload_n 0, 1), some (.iload_n 1, 1), some (.iconst 4, 1), some (.invokestatic 54, 3), none, none, some (.iaload, 1), some (.iadd, 1), some (.istore_n 3, 1), some (.iload_n 3, 1)], [some (.aload_n 0, 1), some (.iload_n 1, 1), some (.bipush 6, 2), none, some (.invokestatic 54, 3), none, none, some (.iaload, 1), some (.iload 4, 2), none, some (.ifCond .ge 9, 3), none, none, some (.iload 4, 2), none, some (.ineg, 1)], [some (.goto 5, 3), none, none, some (.iload 4, 2), none, some (.imul, 1), some (.isub, 1), some (.ireturn, 1)]]
/-- X8_joyOf -/
def jv_c170 : List (List jv_I) := [[some (.aload_n 0, 1), some (.iload_n 1, 1), some (.aload_n 0, 1), some (.iload_n 1, 1), some (.iconst 0, 1), some (.invokestatic 54, 3), none, none, some (.iaload, 1), some (.invokestatic 78, 3), none, none, some (.ireturn, 1)]]
/-- X8_joyAll -/
def jv_c171 : List (List jv_I) := [[some (.iconst 0, 1), some (.istore_n 1, 1), some (.iconst 0, 1), some (.istore_n 2, 1), some (.iload_n 2, 1), some (.aload_n 0, 1), some (.iconst 3, 1), some (.iaload, 1), some (.if_icmp .ge 17, 3), none, none, some (.iload_n 1, 1), some (.aload_n 0, 1), some (.iload_n 2, 1), some (.invokestatic 81, 3), none], [none, some (.iadd, 1), some (.istore_n 1, 1), some (.iinc 2 1, 3), none, none, some (.goto (-18), 3), none, none, some (.iload_n 1, 1), some (.ireturn, 1)]]
/-- X8_grumblers -/
def jv_c172 : List (List jv_I) := [[some (.iconst 0, 1), some (.istore_n 1, 1), some (.iconst 0, 1), some (.istore_n 2, 1), some (.iload_n 2, 1), some (.aload_n 0, 1), some (.iconst 3, 1), some (.iaload, 1), some (.if_icmp .ge 20, 3), none, none, some (.aload_n 0, 1), some (.iload_n 2, 1), some (.invokestatic 81, 3), none, none], [some (.ifCond .ge 6, 3), none, none, some (.iinc 1 1, 3), none, none, some (.iinc 2 1, 3), none, none, some (.goto (-21), 3), none, none, some (.iload_n 1, 1), some (.ireturn, 1)]]
/-- X8_exchanges -/
def jv_c173 : List (List jv_I) := [[some (.aload_n 0, 1), some (.iload_n 1, 1), some (.iconst 0, 1), some (.invokestatic 54, 3), none, none, some (.iaload, 1), some (.istore_n 3, 1), some (.aload_n 0, 1), some (.iload_n 1, 1), some (.iconst 0, 1), some (.invokestatic 54, 3), none, none, some (.aload_n 0, 1), some (.iload_n 2, 1)], [some (.iconst 0, 1), some (.invokestatic 54, 3), none, none, some (.iaload, 1), some (.iastore, 1), some (.aload_n 0, 1), some (.iload_n 2, 1), some (.iconst 0, 1), some (.invokestatic 54, 3), none, none, some (.iload_n 3, 1), some (.iastore, 1), some (.return_, 1)]]
/-- X8_turns -/
def jv_c174 : List (List jv_I) := [[some (.aload_n 0, 1), some (.iload_n 1, 1), some (.iconst 0, 1), some (.invokestatic 54, 3), none, none, some (.iaload, 1), some (.istore 4, 2), none, some (.aload_n 0, 1), some (.iload_n 1, 1), some (.iconst 0, 1), some (.invokestatic 54, 3), none, none, some (.aload_n 0, 1)], [some (.iload_n 2, 1), some (.iconst 0, 1), some (.invokestatic 54, 3), none, none, some (.iaload, 1), some (.iastore, 1), some (.aload_n 0, 1), some (.iload_n 2, 1), some (.iconst 0, 1), some (.invokestatic 54, 3), none, none, some (.aload_n 0, 1), some (.iload_n 3, 1), some (.iconst 0, 1)], [some (.invokestatic 54, 3), none, none, some (.iaload, 1), some (.iastore, 1), some (.aload_n 0, 1), some (.iload_n 3, 1), some (.iconst 0, 1), some (.invokestatic 54, 3), none, none, some (.iload 4, 2), none, some (.iastore, 1), some (.return_, 1)]]
/-- X8_riseBySwap -/
def jv_c175 : List (List jv_I) := [[some (.aload_n 0, 1), some (.iload_n 3, 1), some (.invokestatic 81, 3), none, none, some (.istore 4, 2), none, some (.aload_n 0, 1), some (.iload_n 1, 1), some (.iload_n 2, 1), some (.invokestatic 85, 3), none, none, some (.aload_n 0, 1), some (.iload_n 3, 1), some (.invokestatic 81, 3)], [none, none, some (.istore 5, 2), none, some (.aload_n 0, 1), some (.iload_n 1, 1), some (.iload_n 2, 1), some (.invokestatic 85, 3), none, none, some (.iload 5, 2), none, some (.iload 4, 2), none, some (.isub, 1), some (.ireturn, 1)]]
/-- X8_whySwapped -/
def jv_c176 : List (List jv_I) := [[some (.aload_n 0, 1), some (.iload_n 1, 1), some (.aload_n 0, 1), some (.iload_n 2, 1), some (.iconst 0, 1), some (.invokestatic 54, 3), none, none, some (.iaload, 1), some (.invokestatic 89, 3), none, none, some (.ifCond .eq 18, 3), none, none, some (.aload_n 0, 1)], [some (.iload_n 2, 1), some (.aload_n 0, 1), some (.iload_n 1, 1), some (.iconst 0, 1), some (.invokestatic 54, 3), none, none, some (.iaload, 1), some (.invokestatic 89, 3), none, none, some (.ifCond .ne 5, 3), none, none, some (.iconst 1, 1), some (.ireturn, 1)], [some (.aload_n 0, 1), some (.iload_n 1, 1), some (.bipush 7, 2), none, some (.invokestatic 54, 3), none, none, some (.iaload, 1), some (.iload_n 3, 1), some (.if_icmp .ge 5, 3), none, none, some (.iconst 2, 1), some (.ireturn, 1), some (.aload_n 0, 1), some (.iload_n 1, 1)], [some (.iload_n 2, 1), some (.iload_n 1, 1), some (.invokestatic 93, 3), none, none, some (.iload_n 3, 1), some (.if_icmp .ge 5, 3), none, none, some (.iconst 3, 1), some (.ireturn, 1), some (.aload_n 0, 1), some (.iload_n 1, 1), some (.iload_n 2, 1), some (.iload_n 2, 1), some (.invokestatic 93, 3)], [none, none, some (.iload_n 3, 1), some (.ineg, 1), some (.if_icmp .ge 7, 3), none, none, some (.iconst 4, 1), some (.goto 4, 3), none, none, some (.iconst 0, 1), some (.ireturn, 1)]]
/-- X8_whyMoved -/
def jv_c177 : List (List jv_I) := [[some (.aload_n 0, 1), some (.iload_n 2, 1), some (.invokestatic 97, 3), none, none, some (.ifCond .lt 5, 3), none, none, some (.iconst 5, 1), some (.ireturn, 1), some (.aload_n 0, 1), some (.iload_n 1, 1), some (.iload_n 2, 1), some (.invokestatic 89, 3), none, none], [some (.ifCond .ne 5, 3), none, none, some (.iconst 1, 1), some (.ireturn, 1), some (.aload_n 0, 1), some (.iload_n 1, 1), some (.iload_n 2, 1), some (.invokestatic 78, 3), none, none, some (.aload_n 0, 1), some (.iload_n 1, 1), some (.invokestatic 81, 3), none, none], [some (.if_icmp .ge 8, 3), none, none, some (.bipush 6, 2), none, some (.goto 4, 3), none, none, some (.iconst 0, 1), some (.ireturn, 1)]]
/-- X8_riseByRing -/
def jv_c178 : List (List jv_I) := [[some (.aload_n 0, 1), some (.iload 4, 2), none, some (.invokestatic 81, 3), none, none, some (.istore 5, 2), none, some (.aload_n 0, 1), some (.iload_n 1, 1), some (.iload_n 2, 1), some (.iload_n 3, 1), some (.invokestatic 100, 3), none, none, some (.aload_n 0, 1)], [some (.iload 4, 2), none, some (.invokestatic 81, 3), none, none, some (.istore 6, 2), none, some (.aload_n 0, 1), some (.iload_n 3, 1), some (.iload_n 2, 1), some (.iload_n 1, 1), some (.invokestatic 100, 3), none, none, some (.iload 6, 2), none], [some (.iload 5, 2), none, some (.isub, 1), some (.ireturn, 1)]]
/-- X8_whyRing -/
def jv_c179 : List (List jv_I) := [[some (.aload_n 0, 1), some (.iload_n 1, 1), some (.aload_n 0, 1), some (.iload_n 2, 1), some (.iconst 0, 1), some (.invokestatic 54, 3), none, none, some (.iaload, 1), some (.invokestatic 89, 3), none, none, some (.ifCond .eq 33, 3), none, none, some (.aload_n 0, 1)], [some (.iload_n 2, 1), some (.aload_n 0, 1), some (.iload_n 3, 1), some (.iconst 0, 1), some (.invokestatic 54, 3), none, none, some (.iaload, 1), some (.invokestatic 89, 3), none, none, some (.ifCond .eq 18, 3), none, none, some (.aload_n 0, 1), some (.iload_n 3, 1)], [some (.aload_n 0, 1), some (.iload_n 1, 1), some (.iconst 0, 1), some (.invokestatic 54, 3), none, none, some (.iaload, 1), some (.invokestatic 89, 3), none, none, some (.ifCond .ne 5, 3), none, none, some (.iconst 1, 1), some (.ireturn, 1), some (.aload_n 0, 1)], [some (.iload_n 1, 1), some (.iload_n 2, 1), some (.iload_n 3, 1), some (.iload_n 1, 1), some (.invokestatic 104, 3), none, none, some (.ifCond .ge 6, 3), none, none, some (.bipush 6, 2), none, some (.ireturn, 1), some (.aload_n 0, 1), some (.iload_n 1, 1), some (.iload_n 2, 1)], [some (.iload_n 3, 1), some (.iload_n 2, 1), some (.invokestatic 104, 3), none, none, some (.ifCond .ge 6, 3), none, none, some (.bipush 6, 2), none, some (.ireturn, 1), some (.aload_n 0, 1), some (.iload_n 1, 1), some (.iload_n 2, 1), some (.iload_n 3, 1), some (.iload_n 3, 1)], [some (.invokestatic 104, 3), none, none, some (.ifCond .ge 8, 3), none, none, some (.bipush 6, 2), none, some (.goto 4, 3), none, none, some (.iconst 0, 1), some (.ireturn, 1)]]
/-- X8_riseOfRing -/
def jv_c180 : List (List jv_I) := [[some (.aload_n 0, 1), some (.iload_n 1, 1), some (.iload_n 2, 1), some (.iload_n 3, 1), some (.iload_n 1, 1), some (.invokestatic 104, 3), none, none, some (.aload_n 0, 1), some (.iload_n 1, 1), some (.iload_n 2, 1), some (.iload_n 3, 1), some (.iload_n 2, 1), some (.invokestatic 104, 3), none, none], [some (.iadd, 1), some (.aload_n 0, 1), some (.iload_n 1, 1), some (.iload_n 2, 1), some (.iload_n 3, 1), some (.iload_n 3, 1), some (.invokestatic 104, 3), none, none, some (.iadd, 1), some (.ireturn, 1)]]
/-- X8_riseOfAll -/
def jv_c181 : List (List jv_I) := [[some (.aload_n 0, 1), some (.invokestatic 108, 3), none, none, some (.istore_n 3, 1), some (.aload_n 0, 1), some (.iload_n 1, 1), some (.iload_n 2, 1), some (.invokestatic 85, 3), none, none, some (.aload_n 0, 1), some (.invokestatic 108, 3), none, none, some (.istore 4, 2)], [none, some (.aload_n 0, 1), some (.iload_n 1, 1), some (.iload_n 2, 1), some (.invokestatic 85, 3), none, none, some (.iload 4, 2), none, some (.iload_n 3, 1), some (.isub, 1), some (.ireturn, 1)]]
/-- X8_bestSwap -/
def jv_c182 : List (List jv_I) := [[some (.bipush (-2), 2), none, some (.istore_n 1, 1), some (.iconst 0, 1), some (.istore_n 2, 1), some (.iconst 0, 1), some (.istore_n 3, 1), some (.iload_n 3, 1), some (.aload_n 0, 1), some (.iconst 3, 1), some (.iaload, 1), some (.if_icmp .ge 75, 3), none, none, some (.iconst 0, 1), some (.istore 4, 2)], [none, some (.iload 4, 2), none, some (.aload_n 0, 1), some (.iconst 3, 1), some (.iaload, 1), some (.if_icmp .ge 58, 3), none, none, some (.iload_n 3, 1), some (.iload 4, 2), none, some (.if_icmp .eq 46, 3), none, none, some (.aload_n 0, 1)], [some (.iload_n 3, 1), some (.iload 4, 2), none, some (.iconst 0, 1), some (.invokestatic 112, 3), none, none, some (.ifCond .le 6, 3), none, none, some (.goto 32, 3), none, none, some (.aload_n 0, 1), some (.iload_n 3, 1), some (.iload 4, 2)], [none, some (.invokestatic 115, 3), none, none, some (.istore 5, 2), none, some (.iload 5, 2), none, some (.iload_n 2, 1), some (.if_icmp .gt 6, 3), none, none, some (.goto 14, 3), none, none, some (.bipush 100, 2)], [none, some (.iload_n 3, 1), some (.imul, 1), some (.iload 4, 2), none, some (.iadd, 1), some (.istore_n 1, 1), some (.iload 5, 2), none, some (.istore_n 2, 1), some (.iinc 4 1, 3), none, none, some (.goto (-60), 3), none, none], [some (.iinc 3 1, 3), none, none, some (.goto (-76), 3), none, none, some (.iload_n 1, 1), some (.ireturn, 1)]]
/-- X8_settles -/
def jv_c183 : List (List jv_I) := [[some (.iconst 0, 1), some (.istore_n 1, 1), some (.aload_n 0, 1), some (.invokestatic 118, 3), none, none, some (.istore_n 2, 1), some (.iload_n 2, 1), some (.ifCond .lt 32, 3), none, none, some (.iload_n 1, 1), some (.bipush 99, 2), none, some (.if_icmp .ge 26, 3), none], [none, some (.aload_n 0, 1), some (.iload_n 2, 1), some (.bipush 100, 2), none, some (.idiv, 1), some (.iload_n 2, 1), some (.bipush 100, 2), none, some (.irem, 1), some (.invokestatic 85, 3), none, none, some (.iinc 1 1, 3), none, none], [some (.aload_n 0, 1), some (.invokestatic 118, 3), none, none, some (.istore_n 2, 1), some (.goto (-30), 3), none, none, some (.iload_n 1, 1), some (.ireturn, 1)]]
/-- X8_append -/
def jv_c184 : List (List jv_I) := [[some (.aload_n 0, 1), some (.getfield 121, 3), none, none, some (.bipush 20, 2), none, some (.iadd, 1), some (.sipush 1000, 3), none, none, some (.if_icmp .le 5, 3), none, none, some (.iconst (-1), 1), some (.ireturn, 1), some (.iconst 0, 1)], [some (.istore 6, 2), none, some (.iload 6, 2), none, some (.bipush 20, 2), none, some (.if_icmp .ge 93, 3), none, none, some (.iload 6, 2), none, some (.iconst 4, 1), some (.if_icmp .ge 7, 3), none, none, some (.iload_n 1, 1)], [some (.goto 39, 3), none, none, some (.iload 6, 2), none, some (.bipush 8, 2), none, some (.if_icmp .ge 7, 3), none, none, some (.iload_n 2, 1), some (.goto 28, 3), none, none, some (.iload 6, 2), none], [some (.bipush 12, 2), none, some (.if_icmp .ge 7, 3), none, none, some (.iload_n 3, 1), some (.goto 17, 3), none, none, some (.iload 6, 2), none, some (.bipush 16, 2), none, some (.if_icmp .ge 8, 3), none, none], [some (.iload 4, 2), none, some (.goto 5, 3), none, none, some (.iload 5, 2), none, some (.istore 7, 2), none, some (.aload_n 0, 1), some (.getfield 29, 3), none, none, some (.aload_n 0, 1), some (.getfield 121, 3), none], [none, some (.iload 7, 2), none, some (.bipush 24, 2), none, some (.bipush 8, 2), none, some (.iload 6, 2), none, some (.iconst 4, 1), some (.irem, 1), some (.imul, 1), some (.isub, 1), some (.ishr, 1), some (.sipush 255, 3), none], [none, some (.iand, 1), some (.iastore, 1), some (.aload_n 0, 1), some (.dup, 1), some (.getfield 121, 3), none, none, some (.iconst 1, 1), some (.iadd, 1), some (.putfield 121, 3), none, none, some (.iinc 6 1, 3), none, none], [some (.goto (-94), 3), none, none, some (.aload_n 0, 1), some (.getfield 121, 3), none, none, some (.ireturn, 1)]]
/-- X8_truncate -/
def jv_c185 : List (List jv_I) := [[some (.iload_n 1, 1), some (.ifCond .lt 11, 3), none, none, some (.iload_n 1, 1), some (.aload_n 0, 1), some (.getfield 121, 3), none, none, some (.if_icmp .le 5, 3), none, none, some (.iconst (-1), 1), some (.ireturn, 1), some (.aload_n 0, 1), some (.dup, 1)], [some (.getfield 121, 3), none, none, some (.iload_n 1, 1), some (.isub, 1), some (.putfield 121, 3), none, none, some (.aload_n 0, 1), some (.getfield 121, 3), none, none, some (.ireturn, 1)]]
/-- X8_errorPosition -/
def jv_c186 : List (List jv_I) := [[some (.aload_n 0, 1), some (.getfield 32, 3), none, none, some (.ireturn, 1)]]
/-- X8_isSmall -/
def jv_c187 : List (List jv_I) := [[some (.iload_n 1, 1), some (.aload_n 0, 1), some (.getfield 121, 3), none, none, some (.if_icmp .ge 29, 3), none, none, some (.aload_n 0, 1), some (.getfield 29, 3), none, none, some (.iload_n 1, 1), some (.iaload, 1), some (.bipush 97, 2), none], [some (.if_icmp .lt 18, 3), none, none, some (.aload_n 0, 1), some (.getfield 29, 3), none, none, some (.iload_n 1, 1), some (.iaload, 1), some (.bipush 122, 2), none, some (.if_icmp .gt 7, 3), none, none, some (.iconst 1, 1), some (.goto 4, 3)], [none, none, some (.iconst 0, 1), some (.ireturn, 1)]]
/-- X8_isDigit -/
def jv_c188 : List (List jv_I) := [[some (.iload_n 1, 1), some (.aload_n 0, 1), some (.getfield 121, 3), none, none, some (.if_icmp .ge 29, 3), none, none, some (.aload_n 0, 1), some (.getfield 29, 3), none, none, some (.iload_n 1, 1), some (.iaload, 1), some (.bipush 48, 2), none], [some (.if_icmp .lt 18, 3), none, none, some (.aload_n 0, 1), some (.getfield 29, 3), none, none, some (.iload_n 1, 1), some (.iaload, 1), some (.bipush 57, 2), none, some (.if_icmp .gt 7, 3), none, none, some (.iconst 1, 1), some (.goto 4, 3)], [none, none, some (.iconst 0, 1), some (.ireturn, 1)]]
/-- X8_next -/
def jv_c189 : List (List jv_I) := [[some (.aload_n 0, 1), some (.getfield 124, 3), none, none, some (.aload_n 0, 1), some (.getfield 121, 3), none, none, some (.if_icmp .ge 44, 3), none, none, some (.aload_n 0, 1), some (.getfield 29, 3), none, none, some (.aload_n 0, 1)], [some (.getfield 124, 3), none, none, some (.iaload, 1), some (.bipush 32, 2), none, some (.if_icmp .eq 17, 3), none, none, some (.aload_n 0, 1), some (.getfield 29, 3), none, none, some (.aload_n 0, 1), some (.getfield 124, 3), none], [none, some (.iaload, 1), some (.bipush 10, 2), none, some (.if_icmp .ne 16, 3), none, none, some (.aload_n 0, 1), some (.dup, 1), some (.getfield 124, 3), none, none, some (.iconst 1, 1), some (.iadd, 1), some (.putfield 124, 3), none], [none, some (.goto (-49), 3), none, none, some (.aload_n 0, 1), some (.aload_n 0, 1), some (.getfield 124, 3), none, none, some (.putfield 127, 3), none, none, some (.aload_n 0, 1), some (.iconst 0, 1), some (.putfield 130, 3), none], [none, some (.aload_n 0, 1), some (.getfield 124, 3), none, none, some (.aload_n 0, 1), some (.getfield 121, 3), none, none, some (.if_icmp .ne 11, 3), none, none, some (.aload_n 0, 1), some (.iconst 0, 1), some (.putfield 133, 3), none], [none, some (.goto 109, 3), none, none, some (.aload_n 0, 1), some (.aload_n 0, 1), some (.getfield 124, 3), none, none, some (.invokevirtual 136, 3), none, none, some (.ifCond .eq 10, 3), none, none, some (.aload_n 0, 1)], [some (.invokevirtual 139, 3), none, none, some (.goto 91, 3), none, none, some (.aload_n 0, 1), some (.aload_n 0, 1), some (.getfield 124, 3), none, none, some (.invokevirtual 142, 3), none, none, some (.ifCond .eq 10, 3), none], [none, some (.aload_n 0, 1), some (.invokevirtual 145, 3), none, none, some (.goto 73, 3), none, none, some (.aload_n 0, 1), some (.aload_n 0, 1), some (.getfield 29, 3), none, none, some (.aload_n 0, 1), some (.getfield 124, 3), none], [none, some (.iaload, 1), some (.bipush 59, 2), none, some (.if_icmp .ne 7, 3), none, none, some (.iconst 3, 1), some (.goto 41, 3), none, none, some (.aload_n 0, 1), some (.getfield 29, 3), none, none, some (.aload_n 0, 1)], [some (.getfield 124, 3), none, none, some (.iaload, 1), some (.bipush 43, 2), none, some (.if_icmp .ne 7, 3), none, none, some (.iconst 4, 1), some (.goto 23, 3), none, none, some (.aload_n 0, 1), some (.getfield 29, 3), none], [none, some (.aload_n 0, 1), some (.getfield 124, 3), none, none, some (.iaload, 1), some (.bipush 45, 2), none, some (.if_icmp .ne 7, 3), none, none, some (.iconst 5, 1), some (.goto 5, 3), none, none, some (.bipush 6, 2)], [none, some (.putfield 133, 3), none, none, some (.aload_n 0, 1), some (.dup, 1), some (.getfield 124, 3), none, none, some (.iconst 1, 1), some (.iadd, 1), some (.putfield 124, 3), none, none, some (.return_, 1)]]
/-- X8_nextWord -/
def jv_c190 : List (List jv_I) := [[some (.aload_n 0, 1), some (.aload_n 0, 1), some (.getfield 124, 3), none, none, some (.invokevirtual 136, 3), none, none, some (.ifCond .eq 54, 3), none, none, some (.aload_n 0, 1), some (.getfield 124, 3), none, none, some (.aload_n 0, 1)], [some (.getfield 127, 3), none, none, some (.isub, 1), some (.bipush 6, 2), none, some (.if_icmp .ge 27, 3), none, none, some (.aload_n 0, 1), some (.bipush 27, 2), none, some (.aload_n 0, 1), some (.getfield 130, 3), none, none], [some (.imul, 1), some (.aload_n 0, 1), some (.getfield 29, 3), none, none, some (.aload_n 0, 1), some (.getfield 124, 3), none, none, some (.iaload, 1), some (.iadd, 1), some (.bipush 96, 2), none, some (.isub, 1), some (.putfield 130, 3), none], [none, some (.aload_n 0, 1), some (.dup, 1), some (.getfield 124, 3), none, none, some (.iconst 1, 1), some (.iadd, 1), some (.putfield 124, 3), none, none, some (.goto (-59), 3), none, none, some (.aload_n 0, 1), some (.aload_n 0, 1)], [some (.getfield 124, 3), none, none, some (.aload_n 0, 1), some (.getfield 127, 3), none, none, some (.isub, 1), some (.bipush 6, 2), none, some (.if_icmp .le 8, 3), none, none, some (.bipush 6, 2), none, some (.goto 4, 3)], [none, none, some (.iconst 1, 1), some (.putfield 133, 3), none, none, some (.return_, 1)]]
/-- X8_nextNumber -/
def jv_c191 : List (List jv_I) := [[some (.aload_n 0, 1), some (.aload_n 0, 1), some (.getfield 124, 3), none, none, some (.invokevirtual 142, 3), none, none, some (.ifCond .eq 53, 3), none, none, some (.aload_n 0, 1), some (.getfield 124, 3), none, none, some (.aload_n 0, 1)], [some (.getfield 127, 3), none, none, some (.isub, 1), some (.iconst 2, 1), some (.if_icmp .ge 27, 3), none, none, some (.aload_n 0, 1), some (.bipush 10, 2), none, some (.aload_n 0, 1), some (.getfield 130, 3), none, none, some (.imul, 1)], [some (.aload_n 0, 1), some (.getfield 29, 3), none, none, some (.aload_n 0, 1), some (.getfield 124, 3), none, none, some (.iaload, 1), some (.iadd, 1), some (.bipush 48, 2), none, some (.isub, 1), some (.putfield 130, 3), none, none], [some (.aload_n 0, 1), some (.dup, 1), some (.getfield 124, 3), none, none, some (.iconst 1, 1), some (.iadd, 1), some (.putfield 124, 3), none, none, some (.goto (-58), 3), none, none, some (.aload_n 0, 1), some (.aload_n 0, 1), some (.getfield 124, 3)], [none, none, some (.aload_n 0, 1), some (.getfield 127, 3), none, none, some (.isub, 1), some (.iconst 2, 1), some (.if_icmp .le 8, 3), none, none, some (.bipush 6, 2), none, some (.goto 4, 3), none, none], [some (.iconst 2, 1), some (.putfield 133, 3), none, none, some (.return_, 1)]]
/-- X8_is -/
def jv_c192 : List (List jv_I) := [[some (.aload_n 0, 1), some (.getfield 133, 3), none, none, some (.iconst 1, 1), some (.if_icmp .ne 15, 3), none, none, some (.aload_n 0, 1), some (.getfield 130, 3), none, none, some (.iload_n 1, 1), some (.if_icmp .ne 7, 3), none, none], [some (.iconst 1, 1), some (.goto 4, 3), none, none, some (.iconst 0, 1), some (.ireturn, 1)]]
/-- X8_isKeyword -/
def jv_c193 : List (List jv_I) := [[some (.iload_n 0, 1), some (.lookupswitch 93 #[(13550, 91), (377669, 91), (388978, 91), (692581, 91), (3379448, 91), (10984100, 91), (86887672, 91), (284954995, 91), (291828332, 91), (335086736, 91)], 91), none, none, none, none, none, none, none, none, none, none, none, none, none, none], [none, none, none, none, none, none, none, none, none, none, none, none, none, none, none, none], [none, none, none, none, none, none, none, none, none, none, none, none, none, none, none, none], [none, none, none, none, none, none, none, none, none, none, none, none, none, none, none, none], [none, none, none, none, none, none, none, none, none, none, none, none, none, none, none, none], [none, none, none, none, none, none, none, none, none, none, none, none, some (.iconst 1, 1), some (.ireturn, 1), some (.iconst 0, 1), some (.ireturn, 1)]]
/-- X8_takes -/
def jv_c194 : List (List jv_I) := [[some (.aload_n 0, 1), some (.getfield 148, 3), none, none, some (.ifCond .eq 5, 3), none, none, some (.iconst 0, 1), some (.ireturn, 1), some (.iload_n 1, 1), some (.ifCond .ne 18, 3), none, none, some (.aload_n 0, 1), some (.iconst 1, 1), some (.putfield 148, 3)], [none, none, some (.aload_n 0, 1), some (.aload_n 0, 1), some (.getfield 127, 3), none, none, some (.putfield 32, 3), none, none, some (.iconst 0, 1), some (.ireturn, 1), some (.aload_n 0, 1), some (.invokevirtual 152, 3), none, none], [some (.iconst 1, 1), some (.ireturn, 1)]]
/-- X8_takesNumber -/
def jv_c195 : List (List jv_I) := [[some (.aload_n 0, 1), some (.getfield 130, 3), none, none, some (.istore_n 3, 1), some (.aload_n 0, 1), some (.aload_n 0, 1), some (.getfield 133, 3), none, none, some (.iconst 2, 1), some (.if_icmp .ne 16, 3), none, none, some (.iload_n 3, 1), some (.iload_n 1, 1)], [some (.iload_n 2, 1), some (.invokestatic 46, 3), none, none, some (.ifCond .eq 7, 3), none, none, some (.iconst 1, 1), some (.goto 4, 3), none, none, some (.iconst 0, 1), some (.invokevirtual 155, 3), none, none, some (.ifCond .eq 7, 3)], [none, none, some (.iload_n 3, 1), some (.goto 4, 3), none, none, some (.iconst 0, 1), some (.ireturn, 1)]]
/-- X8_takesWord -/
def jv_c196 : List (List jv_I) := [[some (.aload_n 0, 1), some (.getfield 148, 3), none, none, some (.ifCond .ne 11, 3), none, none, some (.aload_n 0, 1), some (.iload_n 1, 1), some (.invokevirtual 159, 3), none, none, some (.ifCond .ne 5, 3), none, none, some (.iconst 0, 1)], [some (.ireturn, 1), some (.aload_n 0, 1), some (.invokevirtual 152, 3), none, none, some (.iconst 1, 1), some (.ireturn, 1)]]
/-- X8_takesLike -/
def jv_c197 : List (List jv_I) := [[some (.aload_n 0, 1), some (.getfield 133, 3), none, none, some (.iconst 5, 1), some (.if_icmp .ne 7, 3), none, none, some (.iconst (-1), 1), some (.goto 4, 3), none, none, some (.iconst 1, 1), some (.istore_n 1, 1), some (.aload_n 0, 1), some (.aload_n 0, 1)], [some (.getfield 133, 3), none, none, some (.iconst 5, 1), some (.if_icmp .eq 11, 3), none, none, some (.aload_n 0, 1), some (.getfield 133, 3), none, none, some (.iconst 4, 1), some (.if_icmp .ne 7, 3), none, none, some (.iconst 1, 1)], [some (.goto 4, 3), none, none, some (.iconst 0, 1), some (.invokevirtual 155, 3), none, none, some (.pop, 1), some (.iload_n 1, 1), some (.aload_n 0, 1), some (.iconst 0, 1), some (.bipush 9, 2), none, some (.invokevirtual 162, 3), none, none], [some (.imul, 1), some (.ireturn, 1)]]
/-- X8_isName -/
def jv_c198 : List (List jv_I) := [[some (.iload_n 0, 1), some (.invokestatic 165, 3), none, none, some (.iconst 5, 1), some (.if_icmp .gt 14, 3), none, none, some (.iload_n 0, 1), some (.invokestatic 168, 3), none, none, some (.ifCond .ne 7, 3), none, none, some (.iconst 1, 1)], [some (.goto 4, 3), none, none, some (.iconst 0, 1), some (.ireturn, 1)]]
/-- X8_nameSize -/
def jv_c199 : List (List jv_I) := [[some (.iconst 0, 1), some (.istore_n 1, 1), some (.iload_n 0, 1), some (.istore_n 2, 1), some (.iload_n 2, 1), some (.ifCond .le 14, 3), none, none, some (.iinc 1 1, 3), none, none, some (.iload_n 2, 1), some (.bipush 27, 2), none, some (.idiv, 1), some (.istore_n 2, 1)], [some (.goto (-12), 3), none, none, some (.iload_n 1, 1), some (.ireturn, 1)]]
/-- X8_letterOf -/
def jv_c200 : List (List jv_I) := [[some (.iload_n 0, 1), some (.istore_n 2, 1), some (.iload_n 0, 1), some (.invokestatic 165, 3), none, none, some (.iconst 1, 1), some (.isub, 1), some (.istore_n 3, 1), some (.iload_n 3, 1), some (.iload_n 1, 1), some (.if_icmp .le 14, 3), none, none, some (.iload_n 2, 1), some (.bipush 27, 2)], [none, some (.idiv, 1), some (.istore_n 2, 1), some (.iinc 3 (-1), 3), none, none, some (.goto (-13), 3), none, none, some (.iload_n 2, 1), some (.bipush 27, 2), none, some (.irem, 1), some (.ireturn, 1)]]
/-- X8_starts -/
def jv_c201 : List (List jv_I) := [[some (.aload_n 0, 1), some (.iconst 3, 1), some (.iaload, 1), some (.istore_n 3, 1), some (.iconst 0, 1), some (.istore 4, 2), none, some (.iload 4, 2), none, some (.bipush 10, 2), none, some (.if_icmp .ge 18, 3), none, none, some (.aload_n 0, 1), some (.iload_n 3, 1)], [some (.iload 4, 2), none, some (.invokestatic 54, 3), none, none, some (.iconst 0, 1), some (.iastore, 1), some (.iinc 4 1, 3), none, none, some (.goto (-19), 3), none, none, some (.aload_n 0, 1), some (.iload_n 3, 1), some (.iconst 0, 1)], [some (.invokestatic 54, 3), none, none, some (.iload_n 1, 1), some (.iastore, 1), some (.aload_n 0, 1), some (.iload_n 3, 1), some (.bipush 9, 2), none, some (.invokestatic 54, 3), none, none, some (.iload_n 2, 1), some (.iastore, 1), some (.aload_n 0, 1), some (.iload_n 3, 1)], [some (.bipush 8, 2), none, some (.invokestatic 54, 3), none, none, some (.bipush 99, 2), none, some (.iastore, 1), some (.return_, 1)]]
/-- X8_readSeat -/
def jv_c202_0 : List (List jv_I) := [[some (.aload_n 0, 1), some (.aload_n 0, 1), some (.getfield 13, 3), none, none, some (.iconst 3, 1), some (.iaload, 1), some (.bipush 20, 2), none, some (.if_icmp .ge 7, 3), none, none, some (.iconst 1, 1), some (.goto 4, 3), none, none], [some (.iconst 0, 1), some (.invokevirtual 155, 3), none, none, some (.ifCond .ne 4, 3), none, none, some (.return_, 1), some (.aload_n 0, 1), some (.getfield 13, 3), none, none, some (.iconst 3, 1), some (.iaload, 1), some (.istore_n 1, 1), some (.aload_n 0, 1)], [some (.getfield 130, 3), none, none, some (.istore_n 2, 1), some (.aload_n 0, 1), some (.aload_n 0, 1), some (.getfield 133, 3), none, none, some (.iconst 2, 1), some (.if_icmp .ne 30, 3), none, none, some (.iload_n 2, 1), some (.iconst 4, 1), some (.aload_n 0, 1)], [some (.getfield 13, 3), none, none, some (.iconst 0, 1), some (.iaload, 1), some (.imul, 1), some (.if_icmp .ge 18, 3), none, none, some (.aload_n 0, 1), some (.getfield 13, 3), none, none, some (.iload_n 2, 1), some (.invokestatic 97, 3), none], [none, some (.ifCond .ge 7, 3), none, none, some (.iconst 1, 1), some (.goto 4, 3), none, none, some (.iconst 0, 1), some (.invokevirtual 155, 3), none, none, some (.pop, 1), some (.aload_n 0, 1), some (.getfield 130, 3), none], [none, some (.istore_n 3, 1), some (.aload_n 0, 1), some (.aload_n 0, 1), some (.getfield 133, 3), none, none, some (.iconst 1, 1), some (.if_icmp .ne 14, 3), none, none, some (.iload_n 3, 1), some (.invokestatic 171, 3), none, none, some (.ifCond .eq 7, 3)], [none, none, some (.iconst 1, 1), some (.goto 4, 3), none, none, some (.iconst 0, 1), some (.invokevirtual 155, 3), none, none, some (.ifCond .ne 4, 3), none, none, some (.return_, 1), some (.aload_n 0, 1), some (.getfield 13, 3)], [none, none, some (.iload_n 2, 1), some (.iload_n 3, 1), some (.invokestatic 174, 3), none, none, some (.aload_n 0, 1), some (.ldc 177, 2), none, some (.invokevirtual 178, 3), none, none, some (.ifCond .eq 14, 3), none, none], [some (.aload_n 0, 1), some (.getfield 13, 3), none, none, some (.iload_n 1, 1), some (.iconst 1, 1), some (.invokestatic 54, 3), none, none, some (.iconst 1, 1), some (.iastore, 1), some (.aload_n 0, 1), some (.ldc 181, 2), none, some (.invokevirtual 178, 3), none], [none, some (.ifCond .eq 20, 3), none, none, some (.aload_n 0, 1), some (.getfield 13, 3), none, none, some (.iload_n 1, 1), some (.iconst 2, 1), some (.invokestatic 54, 3), none, none, some (.aload_n 0, 1), some (.iconst 1, 1), some (.bipush 9, 2)], [none, some (.invokevirtual 162, 3), none, none, some (.iastore, 1), some (.aload_n 0, 1), some (.ldc 182, 2), none, some (.invokevirtual 178, 3), none, none, some (.ifCond .eq 17, 3), none, none, some (.aload_n 0, 1), some (.getfield 13, 3)], [none, none, some (.iload_n 1, 1), some (.iconst 3, 1), some (.invokestatic 54, 3), none, none, some (.aload_n 0, 1), some (.invokevirtual 183, 3), none, none, some (.iastore, 1), some (.aload_n 0, 1), some (.ldc 187, 2), none, some (.invokevirtual 178, 3)]]
def jv_c202_1 : List (List jv_I) := [[none, none, some (.ifCond .eq 17, 3), none, none, some (.aload_n 0, 1), some (.getfield 13, 3), none, none, some (.iload_n 1, 1), some (.iconst 4, 1), some (.invokestatic 54, 3), none, none, some (.aload_n 0, 1), some (.invokevirtual 183, 3)], [none, none, some (.iastore, 1), some (.aload_n 0, 1), some (.sipush 13550, 3), none, none, some (.invokevirtual 178, 3), none, none, some (.ifCond .eq 43, 3), none, none, some (.aload_n 0, 1), some (.getfield 13, 3), none], [none, some (.iload_n 1, 1), some (.iconst 5, 1), some (.invokestatic 54, 3), none, none, some (.aload_n 0, 1), some (.iconst 0, 1), some (.aload_n 0, 1), some (.getfield 13, 3), none, none, some (.iconst 0, 1), some (.iaload, 1), some (.iconst 1, 1), some (.isub, 1)], [some (.invokevirtual 162, 3), none, none, some (.iastore, 1), some (.aload_n 0, 1), some (.getfield 13, 3), none, none, some (.iload_n 1, 1), some (.bipush 6, 2), none, some (.invokestatic 54, 3), none, none, some (.aload_n 0, 1), some (.iconst 0, 1)], [some (.iconst 3, 1), some (.invokevirtual 162, 3), none, none, some (.iastore, 1), some (.aload_n 0, 1), some (.ldc 188, 2), none, some (.invokevirtual 178, 3), none, none, some (.ifCond .eq 21, 3), none, none, some (.aload_n 0, 1), some (.getfield 13, 3)], [none, none, some (.iload_n 1, 1), some (.bipush 7, 2), none, some (.invokestatic 54, 3), none, none, some (.aload_n 0, 1), some (.iconst 0, 1), some (.bipush 99, 2), none, some (.invokevirtual 162, 3), none, none, some (.iastore, 1)], [some (.aload_n 0, 1), some (.ldc 189, 2), none, some (.invokevirtual 178, 3), none, none, some (.ifCond .eq 21, 3), none, none, some (.aload_n 0, 1), some (.getfield 13, 3), none, none, some (.iload_n 1, 1), some (.bipush 8, 2), none], [some (.invokestatic 54, 3), none, none, some (.aload_n 0, 1), some (.iconst 1, 1), some (.bipush 99, 2), none, some (.invokevirtual 162, 3), none, none, some (.iastore, 1), some (.aload_n 0, 1), some (.aload_n 0, 1), some (.getfield 133, 3), none, none], [some (.iconst 3, 1), some (.if_icmp .ne 19, 3), none, none, some (.aload_n 0, 1), some (.getfield 13, 3), none, none, some (.iload_n 1, 1), some (.iload_n 2, 1), some (.invokestatic 89, 3), none, none, some (.ifCond .eq 7, 3), none, none], [some (.iconst 1, 1), some (.goto 4, 3), none, none, some (.iconst 0, 1), some (.invokevirtual 155, 3), none, none, some (.ifCond .eq 13, 3), none, none, some (.aload_n 0, 1), some (.getfield 13, 3), none, none, some (.iconst 3, 1)], [some (.dup2, 1), some (.iaload, 1), some (.iconst 1, 1), some (.iadd, 1), some (.iastore, 1), some (.return_, 1)]]
def jv_c202 : List (List jv_I) := jv_c202_0 ++ jv_c202_1
/-- X8_load -/
def jv_c203_0 : List (List jv_I) := [[some (.iconst 0, 1), some (.istore_n 1, 1), some (.iload_n 1, 1), some (.sipush 330, 3), none, none, some (.if_icmp .ge 16, 3), none, none, some (.aload_n 0, 1), some (.getfield 13, 3), none, none, some (.iload_n 1, 1), some (.iconst 0, 1), some (.iastore, 1)], [some (.iinc 1 1, 3), none, none, some (.goto (-17), 3), none, none, some (.aload_n 0, 1), some (.iconst 0, 1), some (.putfield 124, 3), none, none, some (.aload_n 0, 1), some (.iconst 0, 1), some (.putfield 148, 3), none, none], [some (.aload_n 0, 1), some (.bipush (-2), 2), none, some (.putfield 32, 3), none, none, some (.aload_n 0, 1), some (.invokevirtual 152, 3), none, none, some (.aload_n 0, 1), some (.aload_n 0, 1), some (.ldc 190, 2), none, some (.invokevirtual 159, 3), none], [none, some (.invokevirtual 155, 3), none, none, some (.pop, 1), some (.aload_n 0, 1), some (.getfield 13, 3), none, none, some (.iconst 0, 1), some (.aload_n 0, 1), some (.iconst 2, 1), some (.bipush 10, 2), none, some (.invokevirtual 162, 3), none], [none, some (.iastore, 1), some (.aload_n 0, 1), some (.aload_n 0, 1), some (.ldc 191, 2), none, some (.invokevirtual 159, 3), none, none, some (.invokevirtual 155, 3), none, none, some (.pop, 1), some (.aload_n 0, 1), some (.getfield 13, 3), none], [none, some (.iconst 1, 1), some (.aload_n 0, 1), some (.iconst 0, 1), some (.aload_n 0, 1), some (.getfield 13, 3), none, none, some (.iconst 0, 1), some (.iaload, 1), some (.invokevirtual 162, 3), none, none, some (.iastore, 1), some (.aload_n 0, 1), some (.aload_n 0, 1)], [some (.getfield 133, 3), none, none, some (.iconst 3, 1), some (.if_icmp .ne 7, 3), none, none, some (.iconst 1, 1), some (.goto 4, 3), none, none, some (.iconst 0, 1), some (.invokevirtual 155, 3), none, none, some (.pop, 1)], [some (.aload_n 0, 1), some (.getfield 148, 3), none, none, some (.ifCond .ne 19, 3), none, none, some (.aload_n 0, 1), some (.ldc 192, 2), none, some (.invokevirtual 159, 3), none, none, some (.ifCond .eq 10, 3), none, none], [some (.aload_n 0, 1), some (.invokevirtual 193, 3), none, none, some (.goto (-20), 3), none, none, some (.aload_n 0, 1), some (.getfield 148, 3), none, none, some (.ifCond .ne 16, 3), none, none, some (.aload_n 0, 1), some (.getfield 133, 3)], [none, none, some (.ifCond .eq 9, 3), none, none, some (.aload_n 0, 1), some (.iconst 0, 1), some (.invokevirtual 155, 3), none, none, some (.pop, 1), some (.aload_n 0, 1), some (.iconst 0, 1), some (.putfield 121, 3), none, none], [some (.aload_n 0, 1), some (.getfield 148, 3), none, none, some (.ifCond .eq 5, 3), none, none, some (.iconst (-1), 1), some (.ireturn, 1), some (.aload_n 0, 1), some (.getfield 13, 3), none, none, some (.iconst 0, 1), some (.aload_n 0, 1), some (.getfield 7, 3)], [none, none, some (.iconst 0, 1), some (.invokestatic 42, 3), none, none, some (.aload_n 0, 1), some (.iconst 0, 1), some (.putfield 196, 3), none, none, some (.iconst 0, 1), some (.istore_n 1, 1), some (.iload_n 1, 1), some (.iconst 2, 1), some (.if_icmp .ge 16, 3)]]
def jv_c203_1 : List (List jv_I) := [[none, none, some (.aload_n 0, 1), some (.getfield 25, 3), none, none, some (.iload_n 1, 1), some (.iconst 0, 1), some (.bastore, 1), some (.iinc 1 1, 3), none, none, some (.goto (-15), 3), none, none, some (.aload_n 0, 1)], [some (.getfield 7, 3), none, none, some (.iconst 3, 1), some (.iaload, 1), some (.ireturn, 1)]]
def jv_c203 : List (List jv_I) := jv_c203_0 ++ jv_c203_1
/-- X8_tells -/
def jv_c204 : List (List jv_I) := [[some (.aload_n 0, 1), some (.getfield 7, 3), none, none, some (.sipush 209, 3), none, none, some (.iaload, 1), some (.bipush 40, 2), none, some (.if_icmp .ne 55, 3), none, none, some (.iconst 0, 1), some (.istore 4, 2), none], [some (.iload 4, 2), none, some (.bipush 117, 2), none, some (.if_icmp .ge 33, 3), none, none, some (.aload_n 0, 1), some (.getfield 7, 3), none, none, some (.sipush 210, 3), none, none, some (.iload 4, 2), none], [some (.iadd, 1), some (.aload_n 0, 1), some (.getfield 7, 3), none, none, some (.sipush 210, 3), none, none, some (.iload 4, 2), none, some (.iadd, 1), some (.iconst 3, 1), some (.iadd, 1), some (.iaload, 1), some (.iastore, 1), some (.iinc 4 1, 3)], [none, none, some (.goto (-34), 3), none, none, some (.aload_n 0, 1), some (.getfield 7, 3), none, none, some (.sipush 209, 3), none, none, some (.dup2, 1), some (.iaload, 1), some (.iconst 1, 1), some (.isub, 1)], [some (.iastore, 1), some (.sipush 210, 3), none, none, some (.iconst 3, 1), some (.aload_n 0, 1), some (.getfield 7, 3), none, none, some (.sipush 209, 3), none, none, some (.iaload, 1), some (.imul, 1), some (.iadd, 1), some (.istore 4, 2)], [none, some (.aload_n 0, 1), some (.getfield 7, 3), none, none, some (.iload 4, 2), none, some (.iload_n 1, 1), some (.iastore, 1), some (.aload_n 0, 1), some (.getfield 7, 3), none, none, some (.iload 4, 2), none, some (.iconst 1, 1)], [some (.iadd, 1), some (.iload_n 2, 1), some (.iastore, 1), some (.aload_n 0, 1), some (.getfield 7, 3), none, none, some (.iload 4, 2), none, some (.iconst 2, 1), some (.iadd, 1), some (.iload_n 3, 1), some (.iastore, 1), some (.aload_n 0, 1), some (.getfield 7, 3), none], [none, some (.sipush 209, 3), none, none, some (.dup2, 1), some (.iaload, 1), some (.iconst 1, 1), some (.iadd, 1), some (.iastore, 1), some (.return_, 1)]]
/-- X8_keepForUndo -/
def jv_c205 : List (List jv_I) := [[some (.aload_n 0, 1), some (.getfield 196, 3), none, none, some (.bipush 8, 2), none, some (.if_icmp .ne 50, 3), none, none, some (.iconst 1, 1), some (.istore_n 1, 1), some (.iload_n 1, 1), some (.bipush 8, 2), none, some (.if_icmp .ge 32, 3), none], [none, some (.aload_n 0, 1), some (.getfield 19, 3), none, none, some (.sipush 330, 3), none, none, some (.iload_n 1, 1), some (.imul, 1), some (.aload_n 0, 1), some (.getfield 19, 3), none, none, some (.sipush 330, 3), none], [none, some (.iload_n 1, 1), some (.iconst 1, 1), some (.isub, 1), some (.imul, 1), some (.invokestatic 42, 3), none, none, some (.iinc 1 1, 3), none, none, some (.goto (-32), 3), none, none, some (.aload_n 0, 1), some (.dup, 1)], [some (.getfield 196, 3), none, none, some (.iconst 1, 1), some (.isub, 1), some (.putfield 196, 3), none, none, some (.aload_n 0, 1), some (.getfield 7, 3), none, none, some (.iconst 0, 1), some (.aload_n 0, 1), some (.getfield 19, 3), none], [none, some (.sipush 330, 3), none, none, some (.aload_n 0, 1), some (.getfield 196, 3), none, none, some (.imul, 1), some (.invokestatic 42, 3), none, none, some (.aload_n 0, 1), some (.dup, 1), some (.getfield 196, 3), none], [none, some (.iconst 1, 1), some (.iadd, 1), some (.putfield 196, 3), none, none, some (.return_, 1)]]
/-- X8_refused -/
def jv_c206 : List (List jv_I) := [[some (.bipush (-10), 2), none, some (.iload_n 0, 1), some (.isub, 1), some (.ireturn, 1)]]
/-- X8_tapeName -/
def jv_c207 : List (List jv_I) := [[some (.iconst 0, 1), some (.istore_n 1, 1), some (.aload_n 0, 1), some (.getfield 121, 3), none, none, some (.iconst 1, 1), some (.iconst 5, 1), some (.invokestatic 46, 3), none, none, some (.istore_n 2, 1), some (.iconst 0, 1), some (.istore_n 3, 1), some (.iload_n 3, 1), some (.aload_n 0, 1)], [some (.getfield 121, 3), none, none, some (.if_icmp .ge 34, 3), none, none, some (.iload_n 2, 1), some (.ifCond .eq 30, 3), none, none, some (.aload_n 0, 1), some (.iload_n 3, 1), some (.invokevirtual 136, 3), none, none, some (.istore_n 2, 1)], [some (.bipush 27, 2), none, some (.iload_n 1, 1), some (.imul, 1), some (.aload_n 0, 1), some (.getfield 29, 3), none, none, some (.iload_n 3, 1), some (.iaload, 1), some (.iadd, 1), some (.bipush 96, 2), none, some (.isub, 1), some (.istore_n 1, 1), some (.iinc 3 1, 3)], [none, none, some (.goto (-36), 3), none, none, some (.iload_n 2, 1), some (.ifCond .eq 14, 3), none, none, some (.iload_n 1, 1), some (.invokestatic 171, 3), none, none, some (.ifCond .eq 7, 3), none, none], [some (.iload_n 1, 1), some (.goto 4, 3), none, none, some (.iconst (-1), 1), some (.ireturn, 1)]]
/-- X8_come -/
def jv_c208_0 : List (List jv_I) := [[some (.aload_n 0, 1), some (.invokevirtual 199, 3), none, none, some (.istore 6, 2), none, some (.aload_n 0, 1), some (.iload_n 1, 1), some (.invokevirtual 202, 3), none, none, some (.ifCond .eq 49, 3), none, none, some (.iload_n 2, 1), some (.iconst 0, 1)], [some (.iconst 1, 1), some (.invokestatic 46, 3), none, none, some (.ifCond .eq 40, 3), none, none, some (.iload_n 3, 1), some (.iconst 0, 1), some (.bipush 9, 2), none, some (.invokestatic 46, 3), none, none, some (.ifCond .eq 30, 3), none], [none, some (.iload 4, 2), none, some (.iconst 0, 1), some (.bipush 99, 2), none, some (.invokestatic 46, 3), none, none, some (.ifCond .eq 19, 3), none, none, some (.iload 5, 2), none, some (.iconst 1, 1), some (.bipush 99, 2)], [none, some (.invokestatic 46, 3), none, none, some (.ifCond .eq 8, 3), none, none, some (.iload 6, 2), none, some (.ifCond .ge 5, 3), none, none, some (.iconst (-1), 1), some (.ireturn, 1), some (.aload_n 0, 1), some (.getfield 7, 3)], [none, none, some (.iconst 3, 1), some (.iaload, 1), some (.bipush 20, 2), none, some (.if_icmp .ne 6, 3), none, none, some (.bipush (-3), 2), none, some (.ireturn, 1), some (.aload_n 0, 1), some (.getfield 7, 3), none, none], [some (.iload_n 1, 1), some (.invokestatic 97, 3), none, none, some (.ifCond .ge 17, 3), none, none, some (.iload_n 2, 1), some (.iload_n 1, 1), some (.aload_n 0, 1), some (.getfield 7, 3), none, none, some (.iconst 1, 1), some (.iaload, 1), some (.invokestatic 62, 3)], [none, none, some (.ifCond .ne 6, 3), none, none, some (.bipush (-4), 2), none, some (.ireturn, 1), some (.aload_n 0, 1), some (.invokevirtual 205, 3), none, none, some (.aload_n 0, 1), some (.iconst 0, 1), some (.putfield 121, 3), none], [none, some (.aload_n 0, 1), some (.getfield 7, 3), none, none, some (.iconst 3, 1), some (.iaload, 1), some (.istore 7, 2), none, some (.aload_n 0, 1), some (.getfield 7, 3), none, none, some (.iload_n 1, 1), some (.iload 6, 2), none], [some (.invokestatic 174, 3), none, none, some (.aload_n 0, 1), some (.getfield 7, 3), none, none, some (.iload 7, 2), none, some (.iconst 1, 1), some (.invokestatic 54, 3), none, none, some (.iload_n 2, 1), some (.iastore, 1), some (.aload_n 0, 1)], [some (.getfield 7, 3), none, none, some (.iload 7, 2), none, some (.iconst 2, 1), some (.invokestatic 54, 3), none, none, some (.iload_n 3, 1), some (.iastore, 1), some (.aload_n 0, 1), some (.getfield 7, 3), none, none, some (.iload 7, 2)], [none, some (.bipush 7, 2), none, some (.invokestatic 54, 3), none, none, some (.iload 4, 2), none, some (.iastore, 1), some (.aload_n 0, 1), some (.getfield 7, 3), none, none, some (.iload 7, 2), none, some (.bipush 8, 2)], [none, some (.invokestatic 54, 3), none, none, some (.iload 5, 2), none, some (.iastore, 1), some (.aload_n 0, 1), some (.getfield 7, 3), none, none, some (.iconst 3, 1), some (.dup2, 1), some (.iaload, 1), some (.iconst 1, 1), some (.iadd, 1)]]
def jv_c208_1 : List (List jv_I) := [[some (.iastore, 1), some (.aload_n 0, 1), some (.iconst 0, 1), some (.iload 7, 2), none, some (.iload_n 1, 1), some (.invokevirtual 208, 3), none, none, some (.iload 7, 2), none, some (.ireturn, 1)]]
def jv_c208 : List (List jv_I) := jv_c208_0 ++ jv_c208_1
/-- X8_fieldOf -/
def jv_c209 : List (List jv_I) := [[some (.iload_n 0, 1), some (.iconst 4, 1), some (.if_icmp .ne 7, 3), none, none, some (.iconst 1, 1), some (.goto 6, 3), none, none, some (.iconst 3, 1), some (.iload_n 0, 1), some (.iadd, 1), some (.ireturn, 1)]]
/-- X8_isNumber -/
def jv_c210 : List (List jv_I) := [[some (.iload_n 1, 1), some (.tableswitch 72 0 4 #[35, 35, 44, 58, 65], 35), none, none, none, none, none, none, none, none, none, none, none, none, none, none], [none, none, none, none, none, none, none, none, none, none, none, none, none, none, none, none], [none, none, none, none, some (.iload_n 2, 1), some (.bipush (-9), 2), none, some (.bipush 9, 2), none, some (.invokestatic 46, 3), none, none, some (.ireturn, 1), some (.iload_n 2, 1), some (.iconst 0, 1), some (.aload_n 0, 1)], [some (.getfield 7, 3), none, none, some (.iconst 0, 1), some (.iaload, 1), some (.iconst 1, 1), some (.isub, 1), some (.invokestatic 46, 3), none, none, some (.ireturn, 1), some (.iload_n 2, 1), some (.iconst 0, 1), some (.iconst 3, 1), some (.invokestatic 46, 3), none], [none, some (.ireturn, 1), some (.iload_n 2, 1), some (.iconst 0, 1), some (.iconst 1, 1), some (.invokestatic 46, 3), none, none, some (.ireturn, 1), some (.iconst 0, 1), some (.ireturn, 1)]]
/-- X8_set -/
def jv_c211 : List (List jv_I) := [[some (.aload_n 0, 1), some (.iload_n 1, 1), some (.invokevirtual 50, 3), none, none, some (.ifCond .eq 12, 3), none, none, some (.aload_n 0, 1), some (.iload_n 2, 1), some (.iload_n 3, 1), some (.invokevirtual 212, 3), none, none, some (.ifCond .ne 5, 3), none], [none, some (.iconst (-1), 1), some (.ireturn, 1), some (.aload_n 0, 1), some (.getfield 7, 3), none, none, some (.iload_n 1, 1), some (.iload_n 2, 1), some (.invokestatic 216, 3), none, none, some (.invokestatic 54, 3), none, none, some (.iaload, 1)], [some (.istore 4, 2), none, some (.iload 4, 2), none, some (.iload_n 3, 1), some (.if_icmp .ne 6, 3), none, none, some (.bipush (-2), 2), none, some (.ireturn, 1), some (.iload_n 2, 1), some (.iconst 4, 1), some (.if_icmp .ne 29, 3), none, none], [some (.iload_n 3, 1), some (.aload_n 0, 1), some (.getfield 7, 3), none, none, some (.iload_n 1, 1), some (.iconst 0, 1), some (.invokestatic 54, 3), none, none, some (.iaload, 1), some (.aload_n 0, 1), some (.getfield 7, 3), none, none, some (.iconst 1, 1)], [some (.iaload, 1), some (.invokestatic 62, 3), none, none, some (.ifCond .ne 6, 3), none, none, some (.bipush (-4), 2), none, some (.ireturn, 1), some (.aload_n 0, 1), some (.invokevirtual 205, 3), none, none, some (.aload_n 0, 1), some (.getfield 7, 3)], [none, none, some (.iload_n 1, 1), some (.iload_n 2, 1), some (.invokestatic 216, 3), none, none, some (.invokestatic 54, 3), none, none, some (.iload_n 3, 1), some (.iastore, 1), some (.aload_n 0, 1), some (.bipush 6, 2), none, some (.bipush 10, 2)], [none, some (.iload_n 1, 1), some (.imul, 1), some (.iload_n 2, 1), some (.iadd, 1), some (.iload 4, 2), none, some (.invokevirtual 208, 3), none, none, some (.iload_n 2, 1), some (.iconst 2, 1), some (.if_icmp .ge 11, 3), none, none, some (.iload 4, 2)], [none, some (.bipush 9, 2), none, some (.iadd, 1), some (.goto 5, 3), none, none, some (.iload 4, 2), none, some (.ireturn, 1)]]
/-- X8_barredBy -/
def jv_c212 : List (List jv_I) := [[some (.iconst 0, 1), some (.istore_n 2, 1), some (.iconst 0, 1), some (.istore_n 3, 1), some (.iload_n 3, 1), some (.aload_n 0, 1), some (.iconst 3, 1), some (.iaload, 1), some (.if_icmp .ge 33, 3), none, none, some (.aload_n 0, 1), some (.iload_n 3, 1), some (.iconst 1, 1), some (.invokestatic 54, 3), none], [none, some (.iaload, 1), some (.aload_n 0, 1), some (.iload_n 3, 1), some (.iconst 0, 1), some (.invokestatic 54, 3), none, none, some (.iaload, 1), some (.iload_n 1, 1), some (.invokestatic 62, 3), none, none, some (.ifCond .ne 6, 3), none, none], [some (.iinc 2 1, 3), none, none, some (.iinc 3 1, 3), none, none, some (.goto (-34), 3), none, none, some (.iload_n 2, 1), some (.ireturn, 1)]]
/-- X8_first -/
def jv_c213 : List (List jv_I) := [[some (.iload_n 1, 1), some (.iconst 0, 1), some (.aload_n 0, 1), some (.getfield 7, 3), none, none, some (.iconst 0, 1), some (.iaload, 1), some (.invokestatic 46, 3), none, none, some (.ifCond .ne 5, 3), none, none, some (.iconst (-1), 1), some (.ireturn, 1)], [some (.aload_n 0, 1), some (.getfield 7, 3), none, none, some (.iconst 1, 1), some (.iaload, 1), some (.istore_n 2, 1), some (.iload_n 2, 1), some (.iload_n 1, 1), some (.if_icmp .ne 6, 3), none, none, some (.bipush (-2), 2), none, some (.ireturn, 1), some (.aload_n 0, 1)], [some (.getfield 7, 3), none, none, some (.iload_n 1, 1), some (.invokestatic 219, 3), none, none, some (.ifCond .le 6, 3), none, none, some (.bipush (-4), 2), none, some (.ireturn, 1), some (.aload_n 0, 1), some (.invokevirtual 205, 3), none], [none, some (.aload_n 0, 1), some (.getfield 7, 3), none, none, some (.iconst 1, 1), some (.iload_n 1, 1), some (.iastore, 1), some (.aload_n 0, 1), some (.bipush 7, 2), none, some (.iconst 0, 1), some (.iload_n 2, 1), some (.invokevirtual 208, 3), none, none], [some (.iload_n 2, 1), some (.ireturn, 1)]]
/-- X8_swap -/
def jv_c214 : List (List jv_I) := [[some (.aload_n 0, 1), some (.iload_n 1, 1), some (.iload_n 2, 1), some (.invokevirtual 222, 3), none, none, some (.ifCond .eq 10, 3), none, none, some (.iload_n 3, 1), some (.invokestatic 225, 3), none, none, some (.ifCond .ne 5, 3), none, none], [some (.iconst (-1), 1), some (.ireturn, 1), some (.aload_n 0, 1), some (.getfield 7, 3), none, none, some (.iload_n 1, 1), some (.iload_n 2, 1), some (.iload_n 3, 1), some (.invokestatic 112, 3), none, none, some (.istore 4, 2), none, some (.iload 4, 2), none], [some (.ifCond .le 9, 3), none, none, some (.iload 4, 2), none, some (.invokestatic 228, 3), none, none, some (.ireturn, 1), some (.aload_n 0, 1), some (.invokevirtual 205, 3), none, none, some (.aload_n 0, 1), some (.getfield 7, 3), none], [none, some (.iload_n 1, 1), some (.iload_n 2, 1), some (.iload_n 1, 1), some (.invokestatic 93, 3), none, none, some (.aload_n 0, 1), some (.getfield 7, 3), none, none, some (.iload_n 1, 1), some (.iload_n 2, 1), some (.iload_n 2, 1), some (.invokestatic 93, 3), none], [none, some (.iadd, 1), some (.istore 5, 2), none, some (.aload_n 0, 1), some (.getfield 7, 3), none, none, some (.iload_n 1, 1), some (.iload_n 2, 1), some (.invokestatic 85, 3), none, none, some (.aload_n 0, 1), some (.getfield 7, 3), none], [none, some (.iload_n 1, 1), some (.bipush 7, 2), none, some (.invokestatic 54, 3), none, none, some (.dup2, 1), some (.iaload, 1), some (.iload_n 3, 1), some (.isub, 1), some (.iastore, 1), some (.aload_n 0, 1), some (.getfield 7, 3), none, none], [some (.iload_n 2, 1), some (.bipush 7, 2), none, some (.invokestatic 54, 3), none, none, some (.dup2, 1), some (.iaload, 1), some (.iload_n 3, 1), some (.iadd, 1), some (.iastore, 1), some (.aload_n 0, 1), some (.getfield 7, 3), none, none, some (.bipush 7, 2)], [none, some (.dup2, 1), some (.iaload, 1), some (.iload_n 3, 1), some (.iadd, 1), some (.iastore, 1), some (.aload_n 0, 1), some (.getfield 7, 3), none, none, some (.iconst 4, 1), some (.dup2, 1), some (.iaload, 1), some (.iconst 1, 1), some (.iadd, 1), some (.iastore, 1)], [some (.aload_n 0, 1), some (.iconst 1, 1), some (.bipush 100, 2), none, some (.iload_n 1, 1), some (.imul, 1), some (.iload_n 2, 1), some (.iadd, 1), some (.iload_n 3, 1), some (.invokevirtual 208, 3), none, none, some (.iload 5, 2), none, some (.bipush 100, 2), none], [some (.iadd, 1), some (.ireturn, 1)]]
/-- X8_move -/
def jv_c215 : List (List jv_I) := [[some (.aload_n 0, 1), some (.iload_n 1, 1), some (.invokevirtual 50, 3), none, none, some (.ifCond .eq 11, 3), none, none, some (.aload_n 0, 1), some (.iload_n 2, 1), some (.invokevirtual 202, 3), none, none, some (.ifCond .ne 5, 3), none, none], [some (.iconst (-1), 1), some (.ireturn, 1), some (.aload_n 0, 1), some (.getfield 7, 3), none, none, some (.iload_n 1, 1), some (.iload_n 2, 1), some (.invokestatic 231, 3), none, none, some (.istore_n 3, 1), some (.iload_n 3, 1), some (.ifCond .le 8, 3), none, none], [some (.iload_n 3, 1), some (.invokestatic 228, 3), none, none, some (.ireturn, 1), some (.aload_n 0, 1), some (.invokevirtual 205, 3), none, none, some (.aload_n 0, 1), some (.getfield 7, 3), none, none, some (.iload_n 1, 1), some (.iconst 0, 1), some (.invokestatic 54, 3)], [none, none, some (.iaload, 1), some (.istore 4, 2), none, some (.aload_n 0, 1), some (.getfield 7, 3), none, none, some (.iload_n 1, 1), some (.iload_n 2, 1), some (.invokestatic 78, 3), none, none, some (.aload_n 0, 1), some (.getfield 7, 3)], [none, none, some (.iload_n 1, 1), some (.invokestatic 81, 3), none, none, some (.isub, 1), some (.istore 5, 2), none, some (.aload_n 0, 1), some (.getfield 7, 3), none, none, some (.iload_n 1, 1), some (.iconst 0, 1), some (.invokestatic 54, 3)], [none, none, some (.iload_n 2, 1), some (.iastore, 1), some (.aload_n 0, 1), some (.getfield 7, 3), none, none, some (.iconst 5, 1), some (.dup2, 1), some (.iaload, 1), some (.iconst 1, 1), some (.iadd, 1), some (.iastore, 1), some (.aload_n 0, 1), some (.iconst 2, 1)], [some (.iload_n 1, 1), some (.iload 4, 2), none, some (.invokevirtual 208, 3), none, none, some (.iload 5, 2), none, some (.ireturn, 1)]]
/-- X8_ring -/
def jv_c216 : List (List jv_I) := [[some (.aload_n 0, 1), some (.iload_n 1, 1), some (.iload_n 2, 1), some (.invokevirtual 222, 3), none, none, some (.ifCond .eq 17, 3), none, none, some (.aload_n 0, 1), some (.iload_n 2, 1), some (.iload_n 3, 1), some (.invokevirtual 222, 3), none, none, some (.ifCond .eq 8, 3)], [none, none, some (.iload_n 1, 1), some (.iload_n 3, 1), some (.if_icmp .ne 5, 3), none, none, some (.iconst (-1), 1), some (.ireturn, 1), some (.aload_n 0, 1), some (.getfield 7, 3), none, none, some (.iload_n 1, 1), some (.iload_n 2, 1), some (.iload_n 3, 1)], [some (.invokestatic 234, 3), none, none, some (.istore 4, 2), none, some (.iload 4, 2), none, some (.ifCond .le 9, 3), none, none, some (.iload 4, 2), none, some (.invokestatic 228, 3), none, none, some (.ireturn, 1)], [some (.aload_n 0, 1), some (.invokevirtual 205, 3), none, none, some (.aload_n 0, 1), some (.getfield 7, 3), none, none, some (.iload_n 1, 1), some (.iload_n 2, 1), some (.iload_n 3, 1), some (.invokestatic 237, 3), none, none, some (.istore 5, 2), none], [some (.aload_n 0, 1), some (.getfield 7, 3), none, none, some (.iload_n 1, 1), some (.iload_n 2, 1), some (.iload_n 3, 1), some (.invokestatic 100, 3), none, none, some (.aload_n 0, 1), some (.getfield 7, 3), none, none, some (.bipush 6, 2), none], [some (.dup2, 1), some (.iaload, 1), some (.iconst 1, 1), some (.iadd, 1), some (.iastore, 1), some (.aload_n 0, 1), some (.iconst 3, 1), some (.sipush 10000, 3), none, none, some (.iload_n 1, 1), some (.imul, 1), some (.bipush 100, 2), none, some (.iload_n 2, 1), some (.imul, 1)], [some (.iadd, 1), some (.iload_n 3, 1), some (.iadd, 1), some (.iconst 0, 1), some (.invokevirtual 208, 3), none, none, some (.iload 5, 2), none, some (.ireturn, 1)]]
/-- X8_settle -/
def jv_c217 : List (List jv_I) := [[some (.aload_n 0, 1), some (.invokevirtual 240, 3), none, none, some (.aload_n 0, 1), some (.getfield 16, 3), none, none, some (.invokestatic 108, 3), none, none, some (.istore_n 1, 1), some (.aload_n 0, 1), some (.getfield 16, 3), none, none], [some (.invokestatic 243, 3), none, none, some (.istore_n 2, 1), some (.iload_n 2, 1), some (.ifCond .ne 6, 3), none, none, some (.bipush (-2), 2), none, some (.ireturn, 1), some (.aload_n 0, 1), some (.invokevirtual 205, 3), none, none, some (.aload_n 0, 1)], [some (.getfield 16, 3), none, none, some (.iconst 0, 1), some (.aload_n 0, 1), some (.getfield 7, 3), none, none, some (.iconst 0, 1), some (.invokestatic 42, 3), none, none, some (.aload_n 0, 1), some (.getfield 7, 3), none, none], [some (.iconst 4, 1), some (.dup2, 1), some (.iaload, 1), some (.iload_n 2, 1), some (.iadd, 1), some (.iastore, 1), some (.aload_n 0, 1), some (.iconst 5, 1), some (.iload_n 2, 1), some (.aload_n 0, 1), some (.getfield 7, 3), none, none, some (.invokestatic 108, 3), none, none], [some (.iload_n 1, 1), some (.isub, 1), some (.invokevirtual 208, 3), none, none, some (.iload_n 2, 1), some (.ireturn, 1)]]
/-- X8_getsOff -/
def jv_c218 : List (List jv_I) := [[some (.aload_n 0, 1), some (.iconst 4, 1), some (.iload_n 1, 1), some (.aload_n 0, 1), some (.getfield 7, 3), none, none, some (.iload_n 1, 1), some (.iconst 0, 1), some (.invokestatic 54, 3), none, none, some (.iaload, 1), some (.invokevirtual 208, 3), none, none], [some (.aload_n 0, 1), some (.getfield 7, 3), none, none, some (.iconst 3, 1), some (.dup2, 1), some (.iaload, 1), some (.iconst 1, 1), some (.isub, 1), some (.iastore, 1), some (.iload_n 1, 1), some (.iconst 0, 1), some (.invokestatic 54, 3), none, none, some (.istore_n 2, 1)], [some (.iload_n 2, 1), some (.aload_n 0, 1), some (.getfield 7, 3), none, none, some (.iconst 3, 1), some (.iaload, 1), some (.iconst 0, 1), some (.invokestatic 54, 3), none, none, some (.if_icmp .ge 24, 3), none, none, some (.aload_n 0, 1), some (.getfield 7, 3)], [none, none, some (.iload_n 2, 1), some (.aload_n 0, 1), some (.getfield 7, 3), none, none, some (.iload_n 2, 1), some (.bipush 10, 2), none, some (.iadd, 1), some (.iaload, 1), some (.iastore, 1), some (.iinc 2 1, 3), none, none], [some (.goto (-32), 3), none, none, some (.aload_n 0, 1), some (.getfield 7, 3), none, none, some (.bipush 8, 2), none, some (.dup2, 1), some (.iaload, 1), some (.iconst 1, 1), some (.iadd, 1), some (.iastore, 1), some (.return_, 1)]]
/-- X8_stops -/
def jv_c219 : List (List jv_I) := [[some (.aload_n 0, 1), some (.getfield 7, 3), none, none, some (.iconst 2, 1), some (.dup2, 1), some (.iaload, 1), some (.iconst 1, 1), some (.iadd, 1), some (.iastore, 1), some (.aload_n 0, 1), some (.getfield 7, 3), none, none, some (.iconst 3, 1), some (.iaload, 1)], [some (.iconst 1, 1), some (.isub, 1), some (.istore_n 1, 1), some (.iload_n 1, 1), some (.ifCond .lt 34, 3), none, none, some (.aload_n 0, 1), some (.getfield 7, 3), none, none, some (.iload_n 1, 1), some (.bipush 8, 2), none, some (.invokestatic 54, 3), none], [none, some (.iaload, 1), some (.aload_n 0, 1), some (.getfield 7, 3), none, none, some (.iconst 2, 1), some (.iaload, 1), some (.if_icmp .ne 8, 3), none, none, some (.aload_n 0, 1), some (.iload_n 1, 1), some (.invokevirtual 246, 3), none, none], [some (.iinc 1 (-1), 3), none, none, some (.goto (-32), 3), none, none, some (.return_, 1)]]
/-- X8_station -/
def jv_c220 : List (List jv_I) := [[some (.iload_n 1, 1), some (.iconst 1, 1), some (.bipush 50, 2), none, some (.invokestatic 46, 3), none, none, some (.ifCond .ne 5, 3), none, none, some (.iconst (-1), 1), some (.ireturn, 1), some (.aload_n 0, 1), some (.getfield 7, 3), none, none], [some (.iconst 2, 1), some (.iaload, 1), some (.iload_n 1, 1), some (.iadd, 1), some (.sipush 999, 3), none, none, some (.if_icmp .le 6, 3), none, none, some (.bipush (-3), 2), none, some (.ireturn, 1), some (.aload_n 0, 1), some (.invokevirtual 205, 3), none], [none, some (.aload_n 0, 1), some (.getfield 7, 3), none, none, some (.bipush 8, 2), none, some (.iaload, 1), some (.istore_n 2, 1), some (.iconst 0, 1), some (.istore_n 3, 1), some (.iload_n 3, 1), some (.iload_n 1, 1), some (.if_icmp .ge 13, 3), none, none], [some (.aload_n 0, 1), some (.invokevirtual 250, 3), none, none, some (.iinc 3 1, 3), none, none, some (.goto (-12), 3), none, none, some (.aload_n 0, 1), some (.getfield 7, 3), none, none, some (.bipush 8, 2), none], [some (.iaload, 1), some (.iload_n 2, 1), some (.isub, 1), some (.ireturn, 1)]]
/-- X8_keep -/
def jv_c221 : List (List jv_I) := [[some (.iload_n 1, 1), some (.iconst 0, 1), some (.iconst 1, 1), some (.invokestatic 46, 3), none, none, some (.ifCond .ne 5, 3), none, none, some (.iconst (-1), 1), some (.ireturn, 1), some (.aload_n 0, 1), some (.getfield 7, 3), none, none, some (.iconst 0, 1)], [some (.aload_n 0, 1), some (.getfield 22, 3), none, none, some (.sipush 330, 3), none, none, some (.iload_n 1, 1), some (.imul, 1), some (.invokestatic 42, 3), none, none, some (.aload_n 0, 1), some (.getfield 25, 3), none, none], [some (.iload_n 1, 1), some (.iconst 1, 1), some (.bastore, 1), some (.aload_n 0, 1), some (.getfield 7, 3), none, none, some (.iconst 3, 1), some (.iaload, 1), some (.ireturn, 1)]]
/-- X8_restore -/
def jv_c222 : List (List jv_I) := [[some (.iload_n 1, 1), some (.iconst 0, 1), some (.iconst 1, 1), some (.invokestatic 46, 3), none, none, some (.ifCond .ne 5, 3), none, none, some (.iconst (-1), 1), some (.ireturn, 1), some (.aload_n 0, 1), some (.getfield 25, 3), none, none, some (.iload_n 1, 1)], [some (.baload, 1), some (.ifCond .ne 6, 3), none, none, some (.bipush (-2), 2), none, some (.ireturn, 1), some (.aload_n 0, 1), some (.invokevirtual 205, 3), none, none, some (.aload_n 0, 1), some (.getfield 22, 3), none, none, some (.sipush 330, 3)], [none, none, some (.iload_n 1, 1), some (.imul, 1), some (.aload_n 0, 1), some (.getfield 7, 3), none, none, some (.iconst 0, 1), some (.invokestatic 42, 3), none, none, some (.aload_n 0, 1), some (.getfield 7, 3), none, none], [some (.iconst 3, 1), some (.iaload, 1), some (.ireturn, 1)]]
/-- X8_undo -/
def jv_c223 : List (List jv_I) := [[some (.aload_n 0, 1), some (.getfield 196, 3), none, none, some (.ifCond .ne 5, 3), none, none, some (.iconst (-1), 1), some (.ireturn, 1), some (.aload_n 0, 1), some (.dup, 1), some (.getfield 196, 3), none, none, some (.iconst 1, 1), some (.isub, 1)], [some (.putfield 196, 3), none, none, some (.aload_n 0, 1), some (.getfield 19, 3), none, none, some (.sipush 330, 3), none, none, some (.aload_n 0, 1), some (.getfield 196, 3), none, none, some (.imul, 1), some (.aload_n 0, 1)], [some (.getfield 7, 3), none, none, some (.iconst 0, 1), some (.invokestatic 42, 3), none, none, some (.aload_n 0, 1), some (.getfield 196, 3), none, none, some (.ireturn, 1)]]
/-- X8_sweetsAll -/
def jv_c224 : List (List jv_I) := [[some (.iconst 0, 1), some (.istore_n 1, 1), some (.iconst 0, 1), some (.istore_n 2, 1), some (.iload_n 2, 1), some (.aload_n 0, 1), some (.getfield 7, 3), none, none, some (.iconst 3, 1), some (.iaload, 1), some (.if_icmp .ge 23, 3), none, none, some (.iload_n 1, 1), some (.aload_n 0, 1)], [some (.getfield 7, 3), none, none, some (.iload_n 2, 1), some (.bipush 7, 2), none, some (.invokestatic 54, 3), none, none, some (.iaload, 1), some (.iadd, 1), some (.istore_n 1, 1), some (.iinc 2 1, 3), none, none, some (.goto (-27), 3)], [none, none, some (.iload_n 1, 1), some (.ireturn, 1)]]
/-- X8_membersOf -/
def jv_c225 : List (List jv_I) := [[some (.iconst 0, 1), some (.istore_n 2, 1), some (.iconst 0, 1), some (.istore_n 3, 1), some (.iload_n 3, 1), some (.aload_n 0, 1), some (.getfield 7, 3), none, none, some (.iconst 3, 1), some (.iaload, 1), some (.if_icmp .ge 26, 3), none, none, some (.aload_n 0, 1), some (.getfield 7, 3)], [none, none, some (.iload_n 3, 1), some (.iconst 2, 1), some (.invokestatic 54, 3), none, none, some (.iaload, 1), some (.iload_n 1, 1), some (.if_icmp .ne 6, 3), none, none, some (.iinc 2 1, 3), none, none, some (.iinc 3 1, 3)], [none, none, some (.goto (-30), 3), none, none, some (.iload_n 2, 1), some (.ireturn, 1)]]
/-- X8_familiesAll -/
def jv_c226 : List (List jv_I) := [[some (.iconst 0, 1), some (.istore_n 1, 1), some (.iconst 1, 1), some (.istore_n 2, 1), some (.iload_n 2, 1), some (.bipush 9, 2), none, some (.if_icmp .gt 20, 3), none, none, some (.aload_n 0, 1), some (.iload_n 2, 1), some (.invokevirtual 253, 3), none, none, some (.ifCond .le 6, 3)], [none, none, some (.iinc 1 1, 3), none, none, some (.iinc 2 1, 3), none, none, some (.goto (-20), 3), none, none, some (.iload_n 1, 1), some (.ireturn, 1)]]
/-- X8_value -/
def jv_c227 : List (List jv_I) := [[some (.iload_n 1, 1), some (.tableswitch 170 0 16 #[83, 83, 83, 83, 90, 106, 118, 126, 131, 131, 131, 131, 131, 143, 151, 156, 165], 83), none, none, none, none, none, none, none, none, none, none, none, none, none, none], [none, none, none, none, none, none, none, none, none, none, none, none, none, none, none, none], [none, none, none, none, none, none, none, none, none, none, none, none, none, none, none, none], [none, none, none, none, none, none, none, none, none, none, none, none, none, none, none, none], [none, none, none, none, none, none, none, none, none, none, none, none, none, none, none, none], [none, none, none, none, some (.aload_n 0, 1), some (.getfield 7, 3), none, none, some (.iload_n 1, 1), some (.iaload, 1), some (.ireturn, 1), some (.iconst 4, 1), some (.aload_n 0, 1), some (.getfield 7, 3), none, none], [some (.iconst 0, 1), some (.iaload, 1), some (.imul, 1), some (.aload_n 0, 1), some (.getfield 7, 3), none, none, some (.iconst 3, 1), some (.iaload, 1), some (.isub, 1), some (.ireturn, 1), some (.aload_n 0, 1), some (.getfield 7, 3), none, none, some (.invokestatic 108, 3)], [none, none, some (.sipush 10000, 3), none, none, some (.iadd, 1), some (.ireturn, 1), some (.aload_n 0, 1), some (.getfield 7, 3), none, none, some (.invokestatic 256, 3), none, none, some (.ireturn, 1), some (.aload_n 0, 1)], [some (.invokevirtual 259, 3), none, none, some (.ireturn, 1), some (.aload_n 0, 1), some (.getfield 7, 3), none, none, some (.iconst 4, 1), some (.iload_n 1, 1), some (.iadd, 1), some (.bipush 8, 2), none, some (.isub, 1), some (.iaload, 1), some (.ireturn, 1)], [some (.aload_n 0, 1), some (.getfield 7, 3), none, none, some (.invokestatic 262, 3), none, none, some (.ireturn, 1), some (.aload_n 0, 1), some (.invokevirtual 265, 3), none, none, some (.ireturn, 1), some (.aload_n 0, 1), some (.getfield 7, 3), none], [none, some (.sipush 209, 3), none, none, some (.iaload, 1), some (.ireturn, 1), some (.aload_n 0, 1), some (.getfield 196, 3), none, none, some (.ireturn, 1), some (.iconst (-1), 1), some (.ireturn, 1)]]
/-- X8_rankOf -/
def jv_c228 : List (List jv_I) := [[some (.iconst 0, 1), some (.istore_n 2, 1), some (.aload_n 0, 1), some (.getfield 7, 3), none, none, some (.iload_n 1, 1), some (.invokestatic 81, 3), none, none, some (.istore_n 3, 1), some (.iconst 0, 1), some (.istore 4, 2), none, some (.iload 4, 2), none], [some (.aload_n 0, 1), some (.getfield 7, 3), none, none, some (.iconst 3, 1), some (.iaload, 1), some (.if_icmp .ge 41, 3), none, none, some (.aload_n 0, 1), some (.getfield 7, 3), none, none, some (.iload 4, 2), none, some (.invokestatic 81, 3)], [none, none, some (.istore 5, 2), none, some (.iload 5, 2), none, some (.iload_n 3, 1), some (.if_icmp .gt 15, 3), none, none, some (.iload 5, 2), none, some (.iload_n 3, 1), some (.if_icmp .ne 12, 3), none, none], [some (.iload 4, 2), none, some (.iload_n 1, 1), some (.if_icmp .ge 6, 3), none, none, some (.iinc 2 1, 3), none, none, some (.iinc 4 1, 3), none, none, some (.goto (-46), 3), none, none, some (.iload_n 2, 1)], [some (.ireturn, 1)]]
/-- X8_of -/
def jv_c229_0 : List (List jv_I) := [[some (.aload_n 0, 1), some (.iload_n 1, 1), some (.invokevirtual 50, 3), none, none, some (.ifCond .ne 5, 3), none, none, some (.iconst (-1), 1), some (.ireturn, 1), some (.aload_n 0, 1), some (.getfield 7, 3), none, none, some (.iload_n 1, 1), some (.iconst 0, 1)], [some (.invokestatic 54, 3), none, none, some (.iaload, 1), some (.istore_n 3, 1), some (.iload_n 2, 1), some (.tableswitch 192 0 11 #[62, 64, 75, 86, 100, 114, 125, 137, 149, 161, 173, 186], 62), none, none, none, none, none, none, none, none, none], [none, none, none, none, none, none, none, none, none, none, none, none, none, none, none, none], [none, none, none, none, none, none, none, none, none, none, none, none, none, none, none, none], [none, none, none, none, none, none, none, none, none, none, none, none, none, none, none, none], [none, none, none, none, some (.iload_n 3, 1), some (.ireturn, 1), some (.aload_n 0, 1), some (.getfield 7, 3), none, none, some (.iload_n 1, 1), some (.iconst 1, 1), some (.invokestatic 54, 3), none, none, some (.iaload, 1)], [some (.ireturn, 1), some (.aload_n 0, 1), some (.getfield 7, 3), none, none, some (.iload_n 1, 1), some (.iconst 2, 1), some (.invokestatic 54, 3), none, none, some (.iaload, 1), some (.ireturn, 1), some (.aload_n 0, 1), some (.getfield 7, 3), none, none], [some (.iload_n 1, 1), some (.iconst 3, 1), some (.invokestatic 54, 3), none, none, some (.iaload, 1), some (.bipush 9, 2), none, some (.iadd, 1), some (.ireturn, 1), some (.aload_n 0, 1), some (.getfield 7, 3), none, none, some (.iload_n 1, 1), some (.iconst 4, 1)], [some (.invokestatic 54, 3), none, none, some (.iaload, 1), some (.bipush 9, 2), none, some (.iadd, 1), some (.ireturn, 1), some (.aload_n 0, 1), some (.getfield 7, 3), none, none, some (.iload_n 1, 1), some (.iconst 5, 1), some (.invokestatic 54, 3), none], [none, some (.iaload, 1), some (.ireturn, 1), some (.aload_n 0, 1), some (.getfield 7, 3), none, none, some (.iload_n 1, 1), some (.bipush 6, 2), none, some (.invokestatic 54, 3), none, none, some (.iaload, 1), some (.ireturn, 1), some (.aload_n 0, 1)], [some (.getfield 7, 3), none, none, some (.iload_n 1, 1), some (.bipush 7, 2), none, some (.invokestatic 54, 3), none, none, some (.iaload, 1), some (.ireturn, 1), some (.aload_n 0, 1), some (.getfield 7, 3), none, none, some (.iload_n 1, 1)], [some (.bipush 8, 2), none, some (.invokestatic 54, 3), none, none, some (.iaload, 1), some (.ireturn, 1), some (.aload_n 0, 1), some (.getfield 7, 3), none, none, some (.iload_n 1, 1), some (.invokestatic 81, 3), none, none, some (.bipush 100, 2)]]
def jv_c229_1 : List (List jv_I) := [[none, some (.iadd, 1), some (.ireturn, 1), some (.aload_n 0, 1), some (.getfield 7, 3), none, none, some (.iload_n 1, 1), some (.iload_n 3, 1), some (.invokestatic 65, 3), none, none, some (.invokestatic 68, 3), none, none, some (.ireturn, 1)], [some (.aload_n 0, 1), some (.iload_n 1, 1), some (.invokevirtual 268, 3), none, none, some (.ireturn, 1), some (.iconst (-1), 1), some (.ireturn, 1)]]
def jv_c229 : List (List jv_I) := jv_c229_0 ++ jv_c229_1
/-- X8_letter -/
def jv_c230 : List (List jv_I) := [[some (.aload_n 0, 1), some (.iload_n 1, 1), some (.invokevirtual 50, 3), none, none, some (.ifCond .eq 7, 3), none, none, some (.iload_n 2, 1), some (.ifCond .ge 5, 3), none, none, some (.iconst (-1), 1), some (.ireturn, 1), some (.aload_n 0, 1), some (.getfield 7, 3)], [none, none, some (.iload_n 1, 1), some (.bipush 9, 2), none, some (.invokestatic 54, 3), none, none, some (.iaload, 1), some (.istore_n 3, 1), some (.iload_n 2, 1), some (.iload_n 3, 1), some (.invokestatic 165, 3), none, none, some (.if_icmp .ge 11, 3)], [none, none, some (.iload_n 3, 1), some (.iload_n 2, 1), some (.invokestatic 271, 3), none, none, some (.goto 5, 3), none, none, some (.bipush (-2), 2), none, some (.ireturn, 1)]]
/-- X8_at -/
def jv_c231 : List (List jv_I) := [[some (.aload_n 0, 1), some (.iload_n 1, 1), some (.invokevirtual 202, 3), none, none, some (.ifCond .eq 14, 3), none, none, some (.aload_n 0, 1), some (.getfield 7, 3), none, none, some (.iload_n 1, 1), some (.invokestatic 97, 3), none, none], [some (.goto 4, 3), none, none, some (.iconst (-1), 1), some (.ireturn, 1)]]
/-- X8_isAtTable -/
def jv_c232 : List (List jv_I) := [[some (.aload_n 0, 1), some (.getfield 7, 3), none, none, some (.iload_n 1, 1), some (.iconst 0, 1), some (.invokestatic 54, 3), none, none, some (.iaload, 1), some (.invokestatic 65, 3), none, none, some (.iload_n 2, 1), some (.if_icmp .ne 7, 3), none], [none, some (.iconst 1, 1), some (.goto 4, 3), none, none, some (.iconst 0, 1), some (.ireturn, 1)]]
/-- X8_membersAt -/
def jv_c233 : List (List jv_I) := [[some (.iconst 0, 1), some (.istore_n 3, 1), some (.iconst 0, 1), some (.istore 4, 2), none, some (.iload 4, 2), none, some (.aload_n 0, 1), some (.getfield 7, 3), none, none, some (.iconst 3, 1), some (.iaload, 1), some (.if_icmp .ge 37, 3), none, none], [some (.aload_n 0, 1), some (.iload 4, 2), none, some (.iload_n 1, 1), some (.invokevirtual 274, 3), none, none, some (.ifCond .eq 21, 3), none, none, some (.aload_n 0, 1), some (.getfield 7, 3), none, none, some (.iload 4, 2), none], [some (.iconst 2, 1), some (.invokestatic 54, 3), none, none, some (.iaload, 1), some (.iload_n 2, 1), some (.if_icmp .ne 6, 3), none, none, some (.iinc 3 1, 3), none, none, some (.iinc 4 1, 3), none, none, some (.goto (-42), 3)], [none, none, some (.iload_n 3, 1), some (.ireturn, 1)]]
/-- X8_familyAt -/
def jv_c234 : List (List jv_I) := [[some (.iconst 0, 1), some (.istore_n 2, 1), some (.iconst 0, 1), some (.istore_n 3, 1), some (.iconst 1, 1), some (.istore 4, 2), none, some (.iload 4, 2), none, some (.bipush 9, 2), none, some (.if_icmp .gt 33, 3), none, none, some (.aload_n 0, 1), some (.iload_n 1, 1)], [some (.iload 4, 2), none, some (.invokevirtual 277, 3), none, none, some (.istore 5, 2), none, some (.iload 5, 2), none, some (.iload_n 3, 1), some (.if_icmp .gt 6, 3), none, none, some (.goto 9, 3), none, none], [some (.iload 4, 2), none, some (.istore_n 2, 1), some (.iload 5, 2), none, some (.istore_n 3, 1), some (.iinc 4 1, 3), none, none, some (.goto (-34), 3), none, none, some (.iload_n 2, 1), some (.ireturn, 1)]]
/-- X8_table -/
def jv_c235 : List (List jv_I) := [[some (.iload_n 1, 1), some (.iconst 0, 1), some (.aload_n 0, 1), some (.getfield 7, 3), none, none, some (.invokestatic 262, 3), none, none, some (.iconst 1, 1), some (.isub, 1), some (.invokestatic 46, 3), none, none, some (.ifCond .eq 12, 3), none], [none, some (.iload_n 2, 1), some (.iconst 0, 1), some (.iconst 3, 1), some (.invokestatic 46, 3), none, none, some (.ifCond .ne 5, 3), none, none, some (.iconst (-1), 1), some (.ireturn, 1), some (.iconst 0, 1), some (.istore_n 3, 1), some (.iconst 0, 1), some (.istore 4, 2)], [none, some (.iconst 0, 1), some (.istore 5, 2), none, some (.iconst 0, 1), some (.istore 6, 2), none, some (.iload 6, 2), none, some (.aload_n 0, 1), some (.getfield 7, 3), none, none, some (.iconst 3, 1), some (.iaload, 1), some (.if_icmp .ge 51, 3)], [none, none, some (.aload_n 0, 1), some (.iload 6, 2), none, some (.iload_n 1, 1), some (.invokevirtual 274, 3), none, none, some (.ifCond .ne 6, 3), none, none, some (.goto 32, 3), none, none, some (.aload_n 0, 1)], [some (.getfield 7, 3), none, none, some (.iload 6, 2), none, some (.invokestatic 81, 3), none, none, some (.istore 7, 2), none, some (.iinc 3 1, 3), none, none, some (.iload 5, 2), none, some (.iload 7, 2)], [none, some (.iadd, 1), some (.istore 5, 2), none, some (.iload 7, 2), none, some (.ifCond .ge 6, 3), none, none, some (.iinc 4 1, 3), none, none, some (.iinc 6 1, 3), none, none, some (.goto (-56), 3)], [none, none, some (.iload_n 2, 1), some (.ifCond .ne 7, 3), none, none, some (.iload_n 3, 1), some (.goto 32, 3), none, none, some (.iload_n 2, 1), some (.iconst 1, 1), some (.if_icmp .ne 8, 3), none, none, some (.iload 4, 2)], [none, some (.goto 22, 3), none, none, some (.iload_n 2, 1), some (.iconst 2, 1), some (.if_icmp .ne 12, 3), none, none, some (.iload 5, 2), none, some (.sipush 1000, 3), none, none, some (.iadd, 1), some (.goto 8, 3)], [none, none, some (.aload_n 0, 1), some (.iload_n 1, 1), some (.invokevirtual 280, 3), none, none, some (.ireturn, 1)]]
/-- X8_tablesOfFamily -/
def jv_c236 : List (List jv_I) := [[some (.iconst 0, 1), some (.istore_n 2, 1), some (.iconst 0, 1), some (.istore_n 3, 1), some (.iload_n 3, 1), some (.aload_n 0, 1), some (.getfield 7, 3), none, none, some (.invokestatic 262, 3), none, none, some (.if_icmp .ge 21, 3), none, none, some (.aload_n 0, 1)], [some (.iload_n 3, 1), some (.iload_n 1, 1), some (.invokevirtual 277, 3), none, none, some (.ifCond .le 6, 3), none, none, some (.iinc 2 1, 3), none, none, some (.iinc 3 1, 3), none, none, some (.goto (-26), 3), none], [none, some (.iload_n 2, 1), some (.ireturn, 1)]]
/-- X8_joyOfFamily -/
def jv_c237 : List (List jv_I) := [[some (.iconst 0, 1), some (.istore_n 2, 1), some (.iconst 0, 1), some (.istore_n 3, 1), some (.iload_n 3, 1), some (.aload_n 0, 1), some (.getfield 7, 3), none, none, some (.iconst 3, 1), some (.iaload, 1), some (.if_icmp .ge 34, 3), none, none, some (.aload_n 0, 1), some (.getfield 7, 3)], [none, none, some (.iload_n 3, 1), some (.iconst 2, 1), some (.invokestatic 54, 3), none, none, some (.iaload, 1), some (.iload_n 1, 1), some (.if_icmp .ne 14, 3), none, none, some (.iload_n 2, 1), some (.aload_n 0, 1), some (.getfield 7, 3), none], [none, some (.iload_n 3, 1), some (.invokestatic 81, 3), none, none, some (.iadd, 1), some (.istore_n 2, 1), some (.iinc 3 1, 3), none, none, some (.goto (-38), 3), none, none, some (.iload_n 2, 1), some (.ireturn, 1)]]
/-- X8_family -/
def jv_c238 : List (List jv_I) := [[some (.iload_n 1, 1), some (.iconst 1, 1), some (.bipush 9, 2), none, some (.invokestatic 46, 3), none, none, some (.ifCond .ne 5, 3), none, none, some (.iconst (-1), 1), some (.ireturn, 1), some (.iload_n 2, 1), some (.tableswitch 49 0 2 #[27, 33, 39], 27), none, none], [none, none, none, none, none, none, none, none, none, none, none, none, none, none, none, none], [none, none, none, none, none, none, none, none, some (.aload_n 0, 1), some (.iload_n 1, 1), some (.invokevirtual 253, 3), none, none, some (.ireturn, 1), some (.aload_n 0, 1), some (.iload_n 1, 1)], [some (.invokevirtual 283, 3), none, none, some (.ireturn, 1), some (.aload_n 0, 1), some (.iload_n 1, 1), some (.invokevirtual 286, 3), none, none, some (.sipush 1000, 3), none, none, some (.iadd, 1), some (.ireturn, 1), some (.iconst (-1), 1), some (.ireturn, 1)]]
/-- X8_ranked -/
def jv_c239 : List (List jv_I) := [[some (.iload_n 1, 1), some (.ifCond .ge 5, 3), none, none, some (.iconst (-1), 1), some (.ireturn, 1), some (.iconst 0, 1), some (.istore_n 2, 1), some (.iload_n 2, 1), some (.aload_n 0, 1), some (.getfield 7, 3), none, none, some (.iconst 3, 1), some (.iaload, 1), some (.if_icmp .ge 20, 3)], [none, none, some (.aload_n 0, 1), some (.iload_n 2, 1), some (.invokevirtual 268, 3), none, none, some (.iload_n 1, 1), some (.if_icmp .ne 5, 3), none, none, some (.iload_n 2, 1), some (.ireturn, 1), some (.iinc 2 1, 3), none, none], [some (.goto (-24), 3), none, none, some (.bipush (-2), 2), none, some (.ireturn, 1)]]
/-- X8_why -/
def jv_c240 : List (List jv_I) := [[some (.aload_n 0, 1), some (.iload_n 1, 1), some (.iload_n 2, 1), some (.invokevirtual 222, 3), none, none, some (.ifCond .eq 23, 3), none, none, some (.iload_n 3, 1), some (.invokestatic 225, 3), none, none, some (.ifCond .eq 16, 3), none, none], [some (.aload_n 0, 1), some (.getfield 7, 3), none, none, some (.iload_n 1, 1), some (.iload_n 2, 1), some (.iload_n 3, 1), some (.invokestatic 112, 3), none, none, some (.goto 4, 3), none, none, some (.iconst (-1), 1), some (.ireturn, 1)]]
/-- X8_whyMove -/
def jv_c241 : List (List jv_I) := [[some (.aload_n 0, 1), some (.iload_n 1, 1), some (.invokevirtual 50, 3), none, none, some (.ifCond .eq 23, 3), none, none, some (.aload_n 0, 1), some (.iload_n 2, 1), some (.invokevirtual 202, 3), none, none, some (.ifCond .eq 15, 3), none, none], [some (.aload_n 0, 1), some (.getfield 7, 3), none, none, some (.iload_n 1, 1), some (.iload_n 2, 1), some (.invokestatic 231, 3), none, none, some (.goto 4, 3), none, none, some (.iconst (-1), 1), some (.ireturn, 1)]]
/-- X8_joyAt -/
def jv_c242 : List (List jv_I) := [[some (.aload_n 0, 1), some (.iload_n 1, 1), some (.invokevirtual 50, 3), none, none, some (.ifCond .eq 26, 3), none, none, some (.aload_n 0, 1), some (.iload_n 2, 1), some (.invokevirtual 202, 3), none, none, some (.ifCond .eq 18, 3), none, none], [some (.aload_n 0, 1), some (.getfield 7, 3), none, none, some (.iload_n 1, 1), some (.iload_n 2, 1), some (.invokestatic 78, 3), none, none, some (.bipush 100, 2), none, some (.iadd, 1), some (.goto 4, 3), none, none, some (.iconst (-1), 1)], [some (.ireturn, 1)]]
/-- X8_ifSwapped -/
def jv_c243 : List (List jv_I) := [[some (.aload_n 0, 1), some (.iload_n 1, 1), some (.iload_n 2, 1), some (.invokevirtual 222, 3), none, none, some (.ifCond .ne 5, 3), none, none, some (.iconst (-1), 1), some (.ireturn, 1), some (.iload_n 3, 1), some (.tableswitch 78 0 2 #[28, 42, 56], 28), none, none, none], [none, none, none, none, none, none, none, none, none, none, none, none, none, none, none, none], [none, none, none, none, none, none, none, none, some (.aload_n 0, 1), some (.getfield 7, 3), none, none, some (.iload_n 1, 1), some (.iload_n 2, 1), some (.iload_n 1, 1), some (.invokestatic 93, 3)], [none, none, some (.bipush 100, 2), none, some (.iadd, 1), some (.ireturn, 1), some (.aload_n 0, 1), some (.getfield 7, 3), none, none, some (.iload_n 1, 1), some (.iload_n 2, 1), some (.iload_n 2, 1), some (.invokestatic 93, 3), none, none], [some (.bipush 100, 2), none, some (.iadd, 1), some (.ireturn, 1), some (.aload_n 0, 1), some (.getfield 7, 3), none, none, some (.invokestatic 108, 3), none, none, some (.aload_n 0, 1), some (.getfield 7, 3), none, none, some (.iload_n 1, 1)], [some (.iload_n 2, 1), some (.invokestatic 115, 3), none, none, some (.iadd, 1), some (.sipush 1000, 3), none, none, some (.iadd, 1), some (.ireturn, 1), some (.iconst (-1), 1), some (.ireturn, 1)]]
/-- X8_leastPrice -/
def jv_c244 : List (List jv_I) := [[some (.aload_n 0, 1), some (.iload_n 1, 1), some (.iload_n 2, 1), some (.invokevirtual 222, 3), none, none, some (.ifCond .ne 5, 3), none, none, some (.iconst (-1), 1), some (.ireturn, 1), some (.iconst 0, 1), some (.istore_n 3, 1), some (.iload_n 3, 1), some (.bipush 9, 2), none], [some (.if_icmp .gt 24, 3), none, none, some (.aload_n 0, 1), some (.getfield 7, 3), none, none, some (.iload_n 1, 1), some (.iload_n 2, 1), some (.iload_n 3, 1), some (.invokestatic 112, 3), none, none, some (.ifCond .ne 5, 3), none, none], [some (.iload_n 3, 1), some (.ireturn, 1), some (.iinc 3 1, 3), none, none, some (.goto (-24), 3), none, none, some (.bipush (-2), 2), none, some (.ireturn, 1)]]
/-- X8_bestSeat -/
def jv_c245 : List (List jv_I) := [[some (.aload_n 0, 1), some (.iload_n 1, 1), some (.invokevirtual 50, 3), none, none, some (.ifCond .ne 5, 3), none, none, some (.iconst (-1), 1), some (.ireturn, 1), some (.bipush (-2), 2), none, some (.istore_n 2, 1), some (.iconst 0, 1), some (.istore_n 3, 1), some (.iload_n 3, 1)], [some (.iconst 4, 1), some (.aload_n 0, 1), some (.getfield 7, 3), none, none, some (.iconst 0, 1), some (.iaload, 1), some (.imul, 1), some (.if_icmp .ge 51, 3), none, none, some (.aload_n 0, 1), some (.getfield 7, 3), none, none, some (.iload_n 1, 1)], [some (.iload_n 3, 1), some (.invokestatic 231, 3), none, none, some (.ifCond .le 6, 3), none, none, some (.goto 30, 3), none, none, some (.iload_n 2, 1), some (.ifCond .lt 24, 3), none, none, some (.aload_n 0, 1), some (.getfield 7, 3)], [none, none, some (.iload_n 1, 1), some (.iload_n 3, 1), some (.invokestatic 78, 3), none, none, some (.aload_n 0, 1), some (.getfield 7, 3), none, none, some (.iload_n 1, 1), some (.iload_n 2, 1), some (.invokestatic 78, 3), none, none], [some (.if_icmp .le 5, 3), none, none, some (.iload_n 3, 1), some (.istore_n 2, 1), some (.iinc 3 1, 3), none, none, some (.goto (-57), 3), none, none, some (.iload_n 2, 1), some (.ireturn, 1)]]
/-- X8_partner -/
def jv_c246 : List (List jv_I) := [[some (.aload_n 0, 1), some (.iload_n 1, 1), some (.invokevirtual 50, 3), none, none, some (.ifCond .ne 5, 3), none, none, some (.iconst (-1), 1), some (.ireturn, 1), some (.bipush (-2), 2), none, some (.istore_n 2, 1), some (.iconst 0, 1), some (.istore_n 3, 1), some (.iconst 0, 1)], [some (.istore 4, 2), none, some (.iload 4, 2), none, some (.aload_n 0, 1), some (.getfield 7, 3), none, none, some (.iconst 3, 1), some (.iaload, 1), some (.if_icmp .ge 60, 3), none, none, some (.iload 4, 2), none, some (.iload_n 1, 1)], [some (.if_icmp .eq 48, 3), none, none, some (.aload_n 0, 1), some (.getfield 7, 3), none, none, some (.iload_n 1, 1), some (.iload 4, 2), none, some (.iconst 0, 1), some (.invokestatic 112, 3), none, none, some (.ifCond .le 6, 3), none], [none, some (.goto 31, 3), none, none, some (.aload_n 0, 1), some (.getfield 7, 3), none, none, some (.iload_n 1, 1), some (.iload 4, 2), none, some (.iload_n 1, 1), some (.invokestatic 93, 3), none, none, some (.istore 5, 2)], [none, some (.iload 5, 2), none, some (.iload_n 3, 1), some (.if_icmp .gt 6, 3), none, none, some (.goto 9, 3), none, none, some (.iload 4, 2), none, some (.istore_n 2, 1), some (.iload 5, 2), none, some (.istore_n 3, 1)], [some (.iinc 4 1, 3), none, none, some (.goto (-65), 3), none, none, some (.iload_n 2, 1), some (.ireturn, 1)]]
/-- X8_rings -/
def jv_c247 : List (List jv_I) := [[some (.iconst 0, 1), some (.istore_n 1, 1), some (.iconst 0, 1), some (.istore_n 2, 1), some (.iload_n 2, 1), some (.aload_n 0, 1), some (.getfield 7, 3), none, none, some (.iconst 3, 1), some (.iaload, 1), some (.if_icmp .ge 91, 3), none, none, some (.iload_n 2, 1), some (.iconst 1, 1)], [some (.iadd, 1), some (.istore_n 3, 1), some (.iload_n 3, 1), some (.aload_n 0, 1), some (.getfield 7, 3), none, none, some (.iconst 3, 1), some (.iaload, 1), some (.if_icmp .ge 71, 3), none, none, some (.iload_n 2, 1), some (.iconst 1, 1), some (.iadd, 1), some (.istore 4, 2)], [none, some (.iload 4, 2), none, some (.aload_n 0, 1), some (.getfield 7, 3), none, none, some (.iconst 3, 1), some (.iaload, 1), some (.if_icmp .ge 49, 3), none, none, some (.iload 4, 2), none, some (.iload_n 3, 1), some (.if_icmp .eq 37, 3)], [none, none, some (.aload_n 0, 1), some (.getfield 7, 3), none, none, some (.iload_n 2, 1), some (.iload_n 3, 1), some (.iload 4, 2), none, some (.invokestatic 234, 3), none, none, some (.ifCond .le 6, 3), none, none], [some (.goto 20, 3), none, none, some (.aload_n 0, 1), some (.getfield 7, 3), none, none, some (.iload_n 2, 1), some (.iload_n 3, 1), some (.iload 4, 2), none, some (.invokestatic 237, 3), none, none, some (.ifCond .le 6, 3), none], [none, some (.iinc 1 1, 3), none, none, some (.iinc 4 1, 3), none, none, some (.goto (-54), 3), none, none, some (.iinc 3 1, 3), none, none, some (.goto (-75), 3), none, none], [some (.iinc 2 1, 3), none, none, some (.goto (-95), 3), none, none, some (.iload_n 1, 1), some (.ireturn, 1)]]
/-- X8_ifSettled -/
def jv_c248 : List (List jv_I) := [[some (.iload_n 1, 1), some (.iconst 0, 1), some (.iconst 2, 1), some (.invokestatic 46, 3), none, none, some (.ifCond .ne 5, 3), none, none, some (.iconst (-1), 1), some (.ireturn, 1), some (.aload_n 0, 1), some (.invokevirtual 240, 3), none, none, some (.aload_n 0, 1)], [some (.getfield 16, 3), none, none, some (.invokestatic 243, 3), none, none, some (.istore_n 2, 1), some (.iload_n 1, 1), some (.ifCond .ne 7, 3), none, none, some (.iload_n 2, 1), some (.goto 29, 3), none, none, some (.iload_n 1, 1)], [some (.iconst 1, 1), some (.if_icmp .ne 17, 3), none, none, some (.aload_n 0, 1), some (.getfield 16, 3), none, none, some (.invokestatic 108, 3), none, none, some (.sipush 10000, 3), none, none, some (.iadd, 1), some (.goto 10, 3)], [none, none, some (.aload_n 0, 1), some (.getfield 16, 3), none, none, some (.invokestatic 256, 3), none, none, some (.ireturn, 1)]]
/-- X8_ifFirst -/
def jv_c249 : List (List jv_I) := [[some (.iload_n 1, 1), some (.iconst 0, 1), some (.aload_n 0, 1), some (.getfield 7, 3), none, none, some (.iconst 0, 1), some (.iaload, 1), some (.invokestatic 46, 3), none, none, some (.ifCond .eq 14, 3), none, none, some (.aload_n 0, 1), some (.getfield 7, 3)], [none, none, some (.iload_n 1, 1), some (.invokestatic 219, 3), none, none, some (.goto 4, 3), none, none, some (.iconst (-1), 1), some (.ireturn, 1)]]
/-- X8_log -/
def jv_c250 : List (List jv_I) := [[some (.iload_n 1, 1), some (.ifCond .lt 12, 3), none, none, some (.iload_n 2, 1), some (.iconst 0, 1), some (.iconst 2, 1), some (.invokestatic 46, 3), none, none, some (.ifCond .ne 5, 3), none, none, some (.iconst (-1), 1), some (.ireturn, 1), some (.iload_n 1, 1)], [some (.aload_n 0, 1), some (.getfield 7, 3), none, none, some (.sipush 209, 3), none, none, some (.iaload, 1), some (.if_icmp .ge 20, 3), none, none, some (.aload_n 0, 1), some (.getfield 7, 3), none, none, some (.sipush 210, 3)], [none, none, some (.iconst 3, 1), some (.iload_n 1, 1), some (.imul, 1), some (.iadd, 1), some (.iload_n 2, 1), some (.iadd, 1), some (.iaload, 1), some (.goto 5, 3), none, none, some (.bipush (-2), 2), none, some (.ireturn, 1)]]
/-- X8_full -/
def jv_c251 : List (List jv_I) := [[some (.aload_n 0, 1), some (.getfield 7, 3), none, none, some (.iconst 3, 1), some (.iaload, 1), some (.i2f, 1), some (.iconst 4, 1), some (.aload_n 0, 1), some (.getfield 7, 3), none, none, some (.iconst 0, 1), some (.iaload, 1), some (.imul, 1), some (.i2f, 1)], [some (.fdiv, 1), some (.freturn, 1)]]
/-- X8_meanJoy -/
def jv_c252 : List (List jv_I) := [[some (.aload_n 0, 1), some (.getfield 7, 3), none, none, some (.iconst 3, 1), some (.iaload, 1), some (.ifCond .ne 7, 3), none, none, some (.dconst 0, 1), some (.goto 19, 3), none, none, some (.aload_n 0, 1), some (.getfield 7, 3), none], [none, some (.invokestatic 108, 3), none, none, some (.i2d, 1), some (.aload_n 0, 1), some (.getfield 7, 3), none, none, some (.iconst 3, 1), some (.iaload, 1), some (.i2d, 1), some (.ddiv, 1), some (.dreturn, 1)]]
/-- X8_puts -/
def jv_c253 : List (List jv_I) := [[some (.aload_n 0, 1), some (.getfield 36, 3), none, none, some (.aload_n 0, 1), some (.getfield 289, 3), none, none, some (.iload_n 1, 1), some (.iastore, 1), some (.aload_n 0, 1), some (.dup, 1), some (.getfield 289, 3), none, none, some (.iconst 1, 1)], [some (.iadd, 1), some (.putfield 289, 3), none, none, some (.return_, 1)]]
/-- X8_writtenAt -/
def jv_c254 : List (List jv_I) := [[some (.iload_n 1, 1), some (.aload_n 0, 1), some (.getfield 289, 3), none, none, some (.if_icmp .ge 12, 3), none, none, some (.aload_n 0, 1), some (.getfield 36, 3), none, none, some (.iload_n 1, 1), some (.iaload, 1), some (.goto 5, 3), none], [none, some (.bipush (-2), 2), none, some (.ireturn, 1)]]
/-- X8_layPlan -/
def jv_c255 : List (List jv_I) := [[some (.aload_n 0, 1), some (.iconst 0, 1), some (.putfield 289, 3), none, none, some (.iconst 0, 1), some (.istore_n 1, 1), some (.iload_n 1, 1), some (.aload_n 0, 1), some (.getfield 7, 3), none, none, some (.iconst 0, 1), some (.iaload, 1), some (.if_icmp .ge 76, 3), none], [none, some (.aload_n 0, 1), some (.iload_n 1, 1), some (.aload_n 0, 1), some (.getfield 7, 3), none, none, some (.iconst 1, 1), some (.iaload, 1), some (.if_icmp .ge 8, 3), none, none, some (.bipush 61, 2), none, some (.goto 5, 3), none], [none, some (.bipush 45, 2), none, some (.invokevirtual 292, 3), none, none, some (.aload_n 0, 1), some (.iload_n 1, 1), some (.invokestatic 75, 3), none, none, some (.ifCond .eq 8, 3), none, none, some (.bipush 62, 2), none], [some (.goto 5, 3), none, none, some (.bipush 60, 2), none, some (.invokevirtual 292, 3), none, none, some (.iconst 0, 1), some (.istore_n 2, 1), some (.iload_n 2, 1), some (.iconst 4, 1), some (.if_icmp .ge 18, 3), none, none, some (.aload_n 0, 1)], [some (.iconst 4, 1), some (.iload_n 1, 1), some (.imul, 1), some (.iload_n 2, 1), some (.iadd, 1), some (.invokevirtual 295, 3), none, none, some (.iinc 2 1, 3), none, none, some (.goto (-17), 3), none, none, some (.aload_n 0, 1), some (.bipush 10, 2)], [none, some (.invokevirtual 292, 3), none, none, some (.iinc 1 1, 3), none, none, some (.goto (-80), 3), none, none, some (.return_, 1)]]
/-- X8_putsSeat -/
def jv_c256 : List (List jv_I) := [[some (.aload_n 0, 1), some (.getfield 7, 3), none, none, some (.iload_n 1, 1), some (.invokestatic 97, 3), none, none, some (.istore_n 2, 1), some (.iload_n 2, 1), some (.ifCond .ge 12, 3), none, none, some (.aload_n 0, 1), some (.bipush 46, 2), none], [some (.invokevirtual 292, 3), none, none, some (.goto 41, 3), none, none, some (.aload_n 0, 1), some (.aload_n 0, 1), some (.getfield 7, 3), none, none, some (.iload_n 2, 1), some (.bipush 9, 2), none, some (.invokestatic 54, 3), none], [none, some (.iaload, 1), some (.iconst 0, 1), some (.invokestatic 271, 3), none, none, some (.aload_n 0, 1), some (.getfield 7, 3), none, none, some (.iload_n 2, 1), some (.invokestatic 81, 3), none, none, some (.ifCond .ge 8, 3), none], [none, some (.bipush 64, 2), none, some (.goto 5, 3), none, none, some (.bipush 96, 2), none, some (.iadd, 1), some (.invokevirtual 292, 3), none, none, some (.return_, 1)]]
/-- X8_planLength -/
def jv_c257 : List (List jv_I) := [[some (.aload_n 0, 1), some (.invokevirtual 298, 3), none, none, some (.aload_n 0, 1), some (.getfield 289, 3), none, none, some (.ireturn, 1)]]
/-- X8_planByte -/
def jv_c258 : List (List jv_I) := [[some (.iload_n 1, 1), some (.ifCond .ge 5, 3), none, none, some (.iconst (-1), 1), some (.ireturn, 1), some (.aload_n 0, 1), some (.invokevirtual 298, 3), none, none, some (.aload_n 0, 1), some (.iload_n 1, 1), some (.invokevirtual 301, 3), none, none, some (.ireturn, 1)]]
/-- X8_putsNumber -/
def jv_c259 : List (List jv_I) := [[some (.iload_n 1, 1), some (.bipush 9, 2), none, some (.if_icmp .le 14, 3), none, none, some (.aload_n 0, 1), some (.bipush 48, 2), none, some (.iload_n 1, 1), some (.bipush 10, 2), none, some (.idiv, 1), some (.iadd, 1), some (.invokevirtual 292, 3), none], [none, some (.aload_n 0, 1), some (.bipush 48, 2), none, some (.iload_n 1, 1), some (.bipush 10, 2), none, some (.irem, 1), some (.iadd, 1), some (.invokevirtual 292, 3), none, none, some (.return_, 1)]]
/-- X8_putsNext -/
def jv_c260 : List (List jv_I) := [[some (.aload_n 0, 1), some (.bipush 32, 2), none, some (.invokevirtual 292, 3), none, none, some (.aload_n 0, 1), some (.iload_n 1, 1), some (.invokevirtual 304, 3), none, none, some (.return_, 1)]]
/-- X8_putsWord -/
def jv_c261 : List (List jv_I) := [[some (.iconst 0, 1), some (.istore_n 2, 1), some (.iload_n 2, 1), some (.iload_n 1, 1), some (.invokestatic 165, 3), none, none, some (.if_icmp .ge 21, 3), none, none, some (.aload_n 0, 1), some (.bipush 96, 2), none, some (.iload_n 1, 1), some (.iload_n 2, 1), some (.invokestatic 271, 3)], [none, none, some (.iadd, 1), some (.invokevirtual 292, 3), none, none, some (.iinc 2 1, 3), none, none, some (.goto (-23), 3), none, none, some (.return_, 1)]]
/-- X8_putsPart -/
def jv_c262 : List (List jv_I) := [[some (.iload_n 2, 1), some (.ifCond .ne 4, 3), none, none, some (.return_, 1), some (.aload_n 0, 1), some (.bipush 32, 2), none, some (.invokevirtual 292, 3), none, none, some (.aload_n 0, 1), some (.iload_n 1, 1), some (.invokevirtual 307, 3), none, none], [some (.aload_n 0, 1), some (.iload_n 2, 1), some (.invokevirtual 310, 3), none, none, some (.return_, 1)]]
/-- X8_putsLike -/
def jv_c263 : List (List jv_I) := [[some (.iload_n 2, 1), some (.ifCond .ne 4, 3), none, none, some (.return_, 1), some (.aload_n 0, 1), some (.bipush 32, 2), none, some (.invokevirtual 292, 3), none, none, some (.aload_n 0, 1), some (.iload_n 1, 1), some (.invokevirtual 307, 3), none, none], [some (.aload_n 0, 1), some (.bipush 32, 2), none, some (.invokevirtual 292, 3), none, none, some (.aload_n 0, 1), some (.iload_n 2, 1), some (.ifCond .ge 8, 3), none, none, some (.bipush 45, 2), none, some (.goto 5, 3), none, none], [some (.bipush 43, 2), none, some (.invokevirtual 292, 3), none, none, some (.aload_n 0, 1), some (.iload_n 2, 1), some (.ifCond .ge 8, 3), none, none, some (.iload_n 2, 1), some (.ineg, 1), some (.goto 4, 3), none, none, some (.iload_n 2, 1)], [some (.invokevirtual 304, 3), none, none, some (.return_, 1)]]
/-- X8_putsTraveller -/
def jv_c264_0 : List (List jv_I) := [[some (.aload_n 0, 1), some (.ldc 192, 2), none, some (.invokevirtual 307, 3), none, none, some (.aload_n 0, 1), some (.aload_n 0, 1), some (.getfield 7, 3), none, none, some (.iload_n 1, 1), some (.iconst 0, 1), some (.invokestatic 54, 3), none, none], [some (.iaload, 1), some (.invokevirtual 310, 3), none, none, some (.aload_n 0, 1), some (.bipush 32, 2), none, some (.invokevirtual 292, 3), none, none, some (.aload_n 0, 1), some (.aload_n 0, 1), some (.getfield 7, 3), none, none, some (.iload_n 1, 1)], [some (.bipush 9, 2), none, some (.invokestatic 54, 3), none, none, some (.iaload, 1), some (.invokevirtual 307, 3), none, none, some (.aload_n 0, 1), some (.getfield 7, 3), none, none, some (.iload_n 1, 1), some (.iconst 1, 1), some (.invokestatic 54, 3)], [none, none, some (.iaload, 1), some (.iconst 1, 1), some (.if_icmp .ne 15, 3), none, none, some (.aload_n 0, 1), some (.bipush 32, 2), none, some (.invokevirtual 292, 3), none, none, some (.aload_n 0, 1), some (.ldc 177, 2), none], [some (.invokevirtual 307, 3), none, none, some (.aload_n 0, 1), some (.ldc 181, 2), none, some (.aload_n 0, 1), some (.getfield 7, 3), none, none, some (.iload_n 1, 1), some (.iconst 2, 1), some (.invokestatic 54, 3), none, none, some (.iaload, 1)], [some (.invokevirtual 313, 3), none, none, some (.aload_n 0, 1), some (.ldc 182, 2), none, some (.aload_n 0, 1), some (.getfield 7, 3), none, none, some (.iload_n 1, 1), some (.iconst 3, 1), some (.invokestatic 54, 3), none, none, some (.iaload, 1)], [some (.invokevirtual 317, 3), none, none, some (.aload_n 0, 1), some (.ldc 187, 2), none, some (.aload_n 0, 1), some (.getfield 7, 3), none, none, some (.iload_n 1, 1), some (.iconst 4, 1), some (.invokestatic 54, 3), none, none, some (.iaload, 1)], [some (.invokevirtual 317, 3), none, none, some (.aload_n 0, 1), some (.getfield 7, 3), none, none, some (.iload_n 1, 1), some (.iconst 5, 1), some (.invokestatic 54, 3), none, none, some (.iaload, 1), some (.ifCond .gt 17, 3), none, none], [some (.aload_n 0, 1), some (.getfield 7, 3), none, none, some (.iload_n 1, 1), some (.bipush 6, 2), none, some (.invokestatic 54, 3), none, none, some (.iaload, 1), some (.ifCond .le 45, 3), none, none, some (.aload_n 0, 1), some (.bipush 32, 2)], [none, some (.invokevirtual 292, 3), none, none, some (.aload_n 0, 1), some (.sipush 13550, 3), none, none, some (.invokevirtual 307, 3), none, none, some (.aload_n 0, 1), some (.aload_n 0, 1), some (.getfield 7, 3), none, none], [some (.iload_n 1, 1), some (.iconst 5, 1), some (.invokestatic 54, 3), none, none, some (.iaload, 1), some (.invokevirtual 310, 3), none, none, some (.aload_n 0, 1), some (.aload_n 0, 1), some (.getfield 7, 3), none, none, some (.iload_n 1, 1), some (.bipush 6, 2)], [none, some (.invokestatic 54, 3), none, none, some (.iaload, 1), some (.invokevirtual 310, 3), none, none, some (.aload_n 0, 1), some (.aload_n 0, 1), some (.getfield 7, 3), none, none, some (.iload_n 1, 1), some (.bipush 7, 2), none]]
def jv_c264_1 : List (List jv_I) := [[some (.invokestatic 54, 3), none, none, some (.iaload, 1), some (.invokevirtual 320, 3), none, none, some (.aload_n 0, 1), some (.getfield 7, 3), none, none, some (.iload_n 1, 1), some (.bipush 8, 2), none, some (.invokestatic 54, 3), none], [none, some (.iaload, 1), some (.bipush 99, 2), none, some (.if_icmp .ge 20, 3), none, none, some (.aload_n 0, 1), some (.ldc 189, 2), none, some (.aload_n 0, 1), some (.getfield 7, 3), none, none, some (.iload_n 1, 1), some (.bipush 8, 2)], [none, some (.invokestatic 54, 3), none, none, some (.iaload, 1), some (.invokevirtual 313, 3), none, none, some (.aload_n 0, 1), some (.bipush 59, 2), none, some (.invokevirtual 292, 3), none, none, some (.return_, 1)]]
def jv_c264 : List (List jv_I) := jv_c264_0 ++ jv_c264_1
/-- X8_putsSweets -/
def jv_c265 : List (List jv_I) := [[some (.iload_n 1, 1), some (.ifCond .ne 4, 3), none, none, some (.return_, 1), some (.aload_n 0, 1), some (.bipush 32, 2), none, some (.invokevirtual 292, 3), none, none, some (.aload_n 0, 1), some (.ldc 188, 2), none, some (.invokevirtual 307, 3), none], [none, some (.aload_n 0, 1), some (.bipush 32, 2), none, some (.invokevirtual 292, 3), none, none, some (.iload_n 1, 1), some (.bipush 99, 2), none, some (.if_icmp .le 14, 3), none, none, some (.aload_n 0, 1), some (.bipush 48, 2), none], [some (.iload_n 1, 1), some (.bipush 100, 2), none, some (.idiv, 1), some (.iadd, 1), some (.invokevirtual 292, 3), none, none, some (.iload_n 1, 1), some (.bipush 9, 2), none, some (.if_icmp .le 17, 3), none, none, some (.aload_n 0, 1), some (.bipush 48, 2)], [none, some (.iload_n 1, 1), some (.bipush 10, 2), none, some (.idiv, 1), some (.bipush 10, 2), none, some (.irem, 1), some (.iadd, 1), some (.invokevirtual 292, 3), none, none, some (.aload_n 0, 1), some (.bipush 48, 2), none, some (.iload_n 1, 1)], [some (.bipush 10, 2), none, some (.irem, 1), some (.iadd, 1), some (.invokevirtual 292, 3), none, none, some (.return_, 1)]]
/-- X8_laySetup -/
def jv_c266 : List (List jv_I) := [[some (.aload_n 0, 1), some (.iconst 0, 1), some (.putfield 289, 3), none, none, some (.aload_n 0, 1), some (.ldc 190, 2), none, some (.invokevirtual 307, 3), none, none, some (.aload_n 0, 1), some (.aload_n 0, 1), some (.getfield 7, 3), none, none], [some (.iconst 0, 1), some (.iaload, 1), some (.invokevirtual 310, 3), none, none, some (.aload_n 0, 1), some (.bipush 32, 2), none, some (.invokevirtual 292, 3), none, none, some (.aload_n 0, 1), some (.ldc 191, 2), none, some (.invokevirtual 307, 3), none], [none, some (.aload_n 0, 1), some (.aload_n 0, 1), some (.getfield 7, 3), none, none, some (.iconst 1, 1), some (.iaload, 1), some (.invokevirtual 310, 3), none, none, some (.aload_n 0, 1), some (.bipush 59, 2), none, some (.invokevirtual 292, 3), none], [none, some (.iconst 0, 1), some (.istore_n 1, 1), some (.iload_n 1, 1), some (.aload_n 0, 1), some (.getfield 7, 3), none, none, some (.iconst 3, 1), some (.iaload, 1), some (.if_icmp .ge 14, 3), none, none, some (.aload_n 0, 1), some (.iload_n 1, 1), some (.invokevirtual 323, 3)], [none, none, some (.iinc 1 1, 3), none, none, some (.goto (-18), 3), none, none, some (.return_, 1)]]
/-- X8_setupLength -/
def jv_c267 : List (List jv_I) := [[some (.aload_n 0, 1), some (.invokevirtual 326, 3), none, none, some (.aload_n 0, 1), some (.getfield 289, 3), none, none, some (.ireturn, 1)]]
/-- X8_setupByte -/
def jv_c268 : List (List jv_I) := [[some (.iload_n 1, 1), some (.ifCond .ge 5, 3), none, none, some (.iconst (-1), 1), some (.ireturn, 1), some (.aload_n 0, 1), some (.invokevirtual 326, 3), none, none, some (.aload_n 0, 1), some (.iload_n 1, 1), some (.invokevirtual 301, 3), none, none, some (.ireturn, 1)]]
/-- J9_floorMod_7cf53 -/
def jv_c269 : List (List jv_I) := [[some (.iload_n 0, 1), some (.iload_n 1, 1), some (.irem, 1), some (.istore_n 2, 1), some (.iload_n 0, 1), some (.iload_n 1, 1), some (.ixor, 1), some (.ifCond .ge 11, 3), none, none, some (.iload_n 2, 1), some (.ifCond .eq 7, 3), none, none, some (.iload_n 2, 1), some (.iload_n 1, 1)], [some (.iadd, 1), some (.ireturn, 1), some (.iload_n 2, 1), some (.ireturn, 1)]]
/-- J9_abs_0f7a4 -/
def jv_c270 : List (List jv_I) := [[some (.iload_n 0, 1), some (.ifCond .ge 8, 3), none, none, some (.iload_n 0, 1), some (.ineg, 1), some (.goto 4, 3), none, none, some (.iload_n 0, 1), some (.ireturn, 1)]]
/-- L_law -/
def jv_c271_0 : List (List jv_I) := [[some (.new 7, 3), none, none, some (.dup, 1), some (.invokespecial 9, 3), none, none, some (.astore_n 1, 1), some (.new 10, 3), none, none, some (.dup, 1), some (.invokespecial 12, 3), none, none, some (.astore_n 2, 1)], [some (.iconst 0, 1), some (.istore_n 3, 1), some (.iload_n 3, 1), some (.aload_n 0, 1), some (.arraylength, 1), some (.bipush 6, 2), none, some (.isub, 1), some (.if_icmp .gt 1269, 3), none, none, some (.aload_n 0, 1), some (.iload_n 3, 1), some (.iaload, 1), some (.bipush 63, 2), none], [some (.iand, 1), some (.tableswitch 1254 0 38 #[171, 234, 257, 270, 283, 346, 389, 412, 455, 488, 531, 544, 567, 590, 613, 626, 649, 682, 715, 738, 771, 804, 827, 870, 903, 936, 979, 1012, 1035, 1058, 1071, 1094, 1117, 1150, 1167, 1182, 1195, 1218, 1231], 171), none, none, none, none, none, none, none, none, none, none, none, none, none, none], [none, none, none, none, none, none, none, none, none, none, none, none, none, none, none, none], [none, none, none, none, none, none, none, none, none, none, none, none, none, none, none, none], [none, none, none, none, none, none, none, none, none, none, none, none, none, none, none, none], [none, none, none, none, none, none, none, none, none, none, none, none, none, none, none, none], [none, none, none, none, none, none, none, none, none, none, none, none, none, none, none, none], [none, none, none, none, none, none, none, none, none, none, none, none, none, none, none, none], [none, none, none, none, none, none, none, none, none, none, none, none, none, none, none, none], [none, none, none, none, none, none, none, none, none, none, none, none, none, none, none, none], [none, none, none, none, none, none, none, none, none, none, none, none, none, none, none, none]]
def jv_c271_1 : List (List jv_I) := [[none, none, none, none, none, none, none, none, none, none, none, none, some (.aload_n 1, 1), some (.aload_n 0, 1), some (.iload_n 3, 1), some (.iconst 1, 1)], [some (.iadd, 1), some (.iaload, 1), some (.aload_n 0, 1), some (.iload_n 3, 1), some (.iconst 2, 1), some (.iadd, 1), some (.iaload, 1), some (.aload_n 0, 1), some (.iload_n 3, 1), some (.iconst 3, 1), some (.iadd, 1), some (.iaload, 1), some (.aload_n 0, 1), some (.iload_n 3, 1), some (.iconst 4, 1), some (.iadd, 1)], [some (.iaload, 1), some (.aload_n 0, 1), some (.iload_n 3, 1), some (.iconst 5, 1), some (.iadd, 1), some (.iaload, 1), some (.invokevirtual 13, 3), none, none, some (.aload_n 2, 1), some (.aload_n 0, 1), some (.iload_n 3, 1), some (.iconst 1, 1), some (.iadd, 1), some (.iaload, 1), some (.aload_n 0, 1)], [some (.iload_n 3, 1), some (.iconst 2, 1), some (.iadd, 1), some (.iaload, 1), some (.aload_n 0, 1), some (.iload_n 3, 1), some (.iconst 3, 1), some (.iadd, 1), some (.iaload, 1), some (.aload_n 0, 1), some (.iload_n 3, 1), some (.iconst 4, 1), some (.iadd, 1), some (.iaload, 1), some (.aload_n 0, 1), some (.iload_n 3, 1)], [some (.iconst 5, 1), some (.iadd, 1), some (.iaload, 1), some (.invokevirtual 17, 3), none, none, some (.if_icmp .eq 1025, 3), none, none, some (.iconst 0, 1), some (.ireturn, 1), some (.aload_n 1, 1), some (.aload_n 0, 1), some (.iload_n 3, 1), some (.iconst 1, 1), some (.iadd, 1)], [some (.iaload, 1), some (.invokevirtual 18, 3), none, none, some (.pop, 1), some (.aload_n 2, 1), some (.aload_n 0, 1), some (.iload_n 3, 1), some (.iconst 1, 1), some (.iadd, 1), some (.iaload, 1), some (.invokevirtual 22, 3), none, none, some (.pop, 1), some (.goto 1000, 3)], [none, none, some (.aload_n 1, 1), some (.invokevirtual 23, 3), none, none, some (.pop, 1), some (.aload_n 2, 1), some (.invokevirtual 27, 3), none, none, some (.pop, 1), some (.goto 987, 3), none, none, some (.aload_n 1, 1)], [some (.invokevirtual 28, 3), none, none, some (.pop, 1), some (.aload_n 2, 1), some (.invokevirtual 31, 3), none, none, some (.pop, 1), some (.goto 974, 3), none, none, some (.aload_n 1, 1), some (.aload_n 0, 1), some (.iload_n 3, 1), some (.iconst 1, 1)], [some (.iadd, 1), some (.iaload, 1), some (.aload_n 0, 1), some (.iload_n 3, 1), some (.iconst 2, 1), some (.iadd, 1), some (.iaload, 1), some (.aload_n 0, 1), some (.iload_n 3, 1), some (.iconst 3, 1), some (.iadd, 1), some (.iaload, 1), some (.aload_n 0, 1), some (.iload_n 3, 1), some (.iconst 4, 1), some (.iadd, 1)], [some (.iaload, 1), some (.aload_n 0, 1), some (.iload_n 3, 1), some (.iconst 5, 1), some (.iadd, 1), some (.iaload, 1), some (.invokevirtual 32, 3), none, none, some (.pop, 1), some (.aload_n 2, 1), some (.aload_n 0, 1), some (.iload_n 3, 1), some (.iconst 1, 1), some (.iadd, 1), some (.iaload, 1)], [some (.aload_n 0, 1), some (.iload_n 3, 1), some (.iconst 2, 1), some (.iadd, 1), some (.iaload, 1), some (.aload_n 0, 1), some (.iload_n 3, 1), some (.iconst 3, 1), some (.iadd, 1), some (.iaload, 1), some (.aload_n 0, 1), some (.iload_n 3, 1), some (.iconst 4, 1), some (.iadd, 1), some (.iaload, 1), some (.aload_n 0, 1)], [some (.iload_n 3, 1), some (.iconst 5, 1), some (.iadd, 1), some (.iaload, 1), some (.invokevirtual 35, 3), none, none, some (.pop, 1), some (.goto 911, 3), none, none, some (.aload_n 1, 1), some (.aload_n 0, 1), some (.iload_n 3, 1), some (.iconst 1, 1), some (.iadd, 1)]]
def jv_c271_2 : List (List jv_I) := [[some (.iaload, 1), some (.aload_n 0, 1), some (.iload_n 3, 1), some (.iconst 2, 1), some (.iadd, 1), some (.iaload, 1), some (.aload_n 0, 1), some (.iload_n 3, 1), some (.iconst 3, 1), some (.iadd, 1), some (.iaload, 1), some (.invokevirtual 36, 3), none, none, some (.pop, 1), some (.aload_n 2, 1)], [some (.aload_n 0, 1), some (.iload_n 3, 1), some (.iconst 1, 1), some (.iadd, 1), some (.iaload, 1), some (.aload_n 0, 1), some (.iload_n 3, 1), some (.iconst 2, 1), some (.iadd, 1), some (.iaload, 1), some (.aload_n 0, 1), some (.iload_n 3, 1), some (.iconst 3, 1), some (.iadd, 1), some (.iaload, 1), some (.invokevirtual 40, 3)], [none, none, some (.pop, 1), some (.goto 868, 3), none, none, some (.aload_n 1, 1), some (.aload_n 0, 1), some (.iload_n 3, 1), some (.iconst 1, 1), some (.iadd, 1), some (.iaload, 1), some (.invokevirtual 41, 3), none, none, some (.pop, 1)], [some (.aload_n 2, 1), some (.aload_n 0, 1), some (.iload_n 3, 1), some (.iconst 1, 1), some (.iadd, 1), some (.iaload, 1), some (.invokevirtual 44, 3), none, none, some (.pop, 1), some (.goto 845, 3), none, none, some (.aload_n 1, 1), some (.aload_n 0, 1), some (.iload_n 3, 1)], [some (.iconst 1, 1), some (.iadd, 1), some (.iaload, 1), some (.aload_n 0, 1), some (.iload_n 3, 1), some (.iconst 2, 1), some (.iadd, 1), some (.iaload, 1), some (.aload_n 0, 1), some (.iload_n 3, 1), some (.iconst 3, 1), some (.iadd, 1), some (.iaload, 1), some (.invokevirtual 45, 3), none, none], [some (.pop, 1), some (.aload_n 2, 1), some (.aload_n 0, 1), some (.iload_n 3, 1), some (.iconst 1, 1), some (.iadd, 1), some (.iaload, 1), some (.aload_n 0, 1), some (.iload_n 3, 1), some (.iconst 2, 1), some (.iadd, 1), some (.iaload, 1), some (.aload_n 0, 1), some (.iload_n 3, 1), some (.iconst 3, 1), some (.iadd, 1)], [some (.iaload, 1), some (.invokevirtual 48, 3), none, none, some (.pop, 1), some (.goto 802, 3), none, none, some (.aload_n 1, 1), some (.aload_n 0, 1), some (.iload_n 3, 1), some (.iconst 1, 1), some (.iadd, 1), some (.iaload, 1), some (.aload_n 0, 1), some (.iload_n 3, 1)], [some (.iconst 2, 1), some (.iadd, 1), some (.iaload, 1), some (.invokevirtual 49, 3), none, none, some (.pop, 1), some (.aload_n 2, 1), some (.aload_n 0, 1), some (.iload_n 3, 1), some (.iconst 1, 1), some (.iadd, 1), some (.iaload, 1), some (.aload_n 0, 1), some (.iload_n 3, 1), some (.iconst 2, 1)], [some (.iadd, 1), some (.iaload, 1), some (.invokevirtual 53, 3), none, none, some (.pop, 1), some (.goto 769, 3), none, none, some (.aload_n 1, 1), some (.aload_n 0, 1), some (.iload_n 3, 1), some (.iconst 1, 1), some (.iadd, 1), some (.iaload, 1), some (.aload_n 0, 1)], [some (.iload_n 3, 1), some (.iconst 2, 1), some (.iadd, 1), some (.iaload, 1), some (.aload_n 0, 1), some (.iload_n 3, 1), some (.iconst 3, 1), some (.iadd, 1), some (.iaload, 1), some (.invokevirtual 54, 3), none, none, some (.pop, 1), some (.aload_n 2, 1), some (.aload_n 0, 1), some (.iload_n 3, 1)], [some (.iconst 1, 1), some (.iadd, 1), some (.iaload, 1), some (.aload_n 0, 1), some (.iload_n 3, 1), some (.iconst 2, 1), some (.iadd, 1), some (.iaload, 1), some (.aload_n 0, 1), some (.iload_n 3, 1), some (.iconst 3, 1), some (.iadd, 1), some (.iaload, 1), some (.invokevirtual 57, 3), none, none], [some (.pop, 1), some (.goto 726, 3), none, none, some (.aload_n 1, 1), some (.invokevirtual 58, 3), none, none, some (.pop, 1), some (.aload_n 2, 1), some (.invokevirtual 61, 3), none, none, some (.pop, 1), some (.goto 713, 3), none]]
def jv_c271_3 : List (List jv_I) := [[none, some (.aload_n 1, 1), some (.aload_n 0, 1), some (.iload_n 3, 1), some (.iconst 1, 1), some (.iadd, 1), some (.iaload, 1), some (.invokevirtual 62, 3), none, none, some (.pop, 1), some (.aload_n 2, 1), some (.aload_n 0, 1), some (.iload_n 3, 1), some (.iconst 1, 1), some (.iadd, 1)], [some (.iaload, 1), some (.invokevirtual 65, 3), none, none, some (.pop, 1), some (.goto 690, 3), none, none, some (.aload_n 1, 1), some (.aload_n 0, 1), some (.iload_n 3, 1), some (.iconst 1, 1), some (.iadd, 1), some (.iaload, 1), some (.invokevirtual 66, 3), none], [none, some (.pop, 1), some (.aload_n 2, 1), some (.aload_n 0, 1), some (.iload_n 3, 1), some (.iconst 1, 1), some (.iadd, 1), some (.iaload, 1), some (.invokevirtual 69, 3), none, none, some (.pop, 1), some (.goto 667, 3), none, none, some (.aload_n 1, 1)], [some (.aload_n 0, 1), some (.iload_n 3, 1), some (.iconst 1, 1), some (.iadd, 1), some (.iaload, 1), some (.invokevirtual 70, 3), none, none, some (.pop, 1), some (.aload_n 2, 1), some (.aload_n 0, 1), some (.iload_n 3, 1), some (.iconst 1, 1), some (.iadd, 1), some (.iaload, 1), some (.invokevirtual 73, 3)], [none, none, some (.pop, 1), some (.goto 644, 3), none, none, some (.aload_n 1, 1), some (.invokevirtual 74, 3), none, none, some (.pop, 1), some (.aload_n 2, 1), some (.invokevirtual 77, 3), none, none, some (.pop, 1)], [some (.goto 631, 3), none, none, some (.aload_n 1, 1), some (.aload_n 0, 1), some (.iload_n 3, 1), some (.iconst 1, 1), some (.iadd, 1), some (.iaload, 1), some (.invokevirtual 78, 3), none, none, some (.pop, 1), some (.aload_n 2, 1), some (.aload_n 0, 1), some (.iload_n 3, 1)], [some (.iconst 1, 1), some (.iadd, 1), some (.iaload, 1), some (.invokevirtual 81, 3), none, none, some (.pop, 1), some (.goto 608, 3), none, none, some (.aload_n 1, 1), some (.aload_n 0, 1), some (.iload_n 3, 1), some (.iconst 1, 1), some (.iadd, 1), some (.iaload, 1)], [some (.aload_n 0, 1), some (.iload_n 3, 1), some (.iconst 2, 1), some (.iadd, 1), some (.iaload, 1), some (.invokevirtual 82, 3), none, none, some (.pop, 1), some (.aload_n 2, 1), some (.aload_n 0, 1), some (.iload_n 3, 1), some (.iconst 1, 1), some (.iadd, 1), some (.iaload, 1), some (.aload_n 0, 1)], [some (.iload_n 3, 1), some (.iconst 2, 1), some (.iadd, 1), some (.iaload, 1), some (.invokevirtual 85, 3), none, none, some (.pop, 1), some (.goto 575, 3), none, none, some (.aload_n 1, 1), some (.aload_n 0, 1), some (.iload_n 3, 1), some (.iconst 1, 1), some (.iadd, 1)], [some (.iaload, 1), some (.aload_n 0, 1), some (.iload_n 3, 1), some (.iconst 2, 1), some (.iadd, 1), some (.iaload, 1), some (.invokevirtual 86, 3), none, none, some (.pop, 1), some (.aload_n 2, 1), some (.aload_n 0, 1), some (.iload_n 3, 1), some (.iconst 1, 1), some (.iadd, 1), some (.iaload, 1)], [some (.aload_n 0, 1), some (.iload_n 3, 1), some (.iconst 2, 1), some (.iadd, 1), some (.iaload, 1), some (.invokevirtual 89, 3), none, none, some (.pop, 1), some (.goto 542, 3), none, none, some (.aload_n 1, 1), some (.aload_n 0, 1), some (.iload_n 3, 1), some (.iconst 1, 1)], [some (.iadd, 1), some (.iaload, 1), some (.invokevirtual 90, 3), none, none, some (.pop, 1), some (.aload_n 2, 1), some (.aload_n 0, 1), some (.iload_n 3, 1), some (.iconst 1, 1), some (.iadd, 1), some (.iaload, 1), some (.invokevirtual 93, 3), none, none, some (.pop, 1)]]
def jv_c271_4 : List (List jv_I) := [[some (.goto 519, 3), none, none, some (.aload_n 1, 1), some (.aload_n 0, 1), some (.iload_n 3, 1), some (.iconst 1, 1), some (.iadd, 1), some (.iaload, 1), some (.aload_n 0, 1), some (.iload_n 3, 1), some (.iconst 2, 1), some (.iadd, 1), some (.iaload, 1), some (.invokevirtual 94, 3), none], [none, some (.pop, 1), some (.aload_n 2, 1), some (.aload_n 0, 1), some (.iload_n 3, 1), some (.iconst 1, 1), some (.iadd, 1), some (.iaload, 1), some (.aload_n 0, 1), some (.iload_n 3, 1), some (.iconst 2, 1), some (.iadd, 1), some (.iaload, 1), some (.invokevirtual 97, 3), none, none], [some (.pop, 1), some (.goto 486, 3), none, none, some (.aload_n 1, 1), some (.aload_n 0, 1), some (.iload_n 3, 1), some (.iconst 1, 1), some (.iadd, 1), some (.iaload, 1), some (.aload_n 0, 1), some (.iload_n 3, 1), some (.iconst 2, 1), some (.iadd, 1), some (.iaload, 1), some (.invokevirtual 98, 3)], [none, none, some (.pop, 1), some (.aload_n 2, 1), some (.aload_n 0, 1), some (.iload_n 3, 1), some (.iconst 1, 1), some (.iadd, 1), some (.iaload, 1), some (.aload_n 0, 1), some (.iload_n 3, 1), some (.iconst 2, 1), some (.iadd, 1), some (.iaload, 1), some (.invokevirtual 101, 3), none], [none, some (.pop, 1), some (.goto 453, 3), none, none, some (.aload_n 1, 1), some (.aload_n 0, 1), some (.iload_n 3, 1), some (.iconst 1, 1), some (.iadd, 1), some (.iaload, 1), some (.invokevirtual 102, 3), none, none, some (.pop, 1), some (.aload_n 2, 1)], [some (.aload_n 0, 1), some (.iload_n 3, 1), some (.iconst 1, 1), some (.iadd, 1), some (.iaload, 1), some (.invokevirtual 105, 3), none, none, some (.pop, 1), some (.goto 430, 3), none, none, some (.aload_n 1, 1), some (.aload_n 0, 1), some (.iload_n 3, 1), some (.iconst 1, 1)], [some (.iadd, 1), some (.iaload, 1), some (.aload_n 0, 1), some (.iload_n 3, 1), some (.iconst 2, 1), some (.iadd, 1), some (.iaload, 1), some (.aload_n 0, 1), some (.iload_n 3, 1), some (.iconst 3, 1), some (.iadd, 1), some (.iaload, 1), some (.invokevirtual 106, 3), none, none, some (.pop, 1)], [some (.aload_n 2, 1), some (.aload_n 0, 1), some (.iload_n 3, 1), some (.iconst 1, 1), some (.iadd, 1), some (.iaload, 1), some (.aload_n 0, 1), some (.iload_n 3, 1), some (.iconst 2, 1), some (.iadd, 1), some (.iaload, 1), some (.aload_n 0, 1), some (.iload_n 3, 1), some (.iconst 3, 1), some (.iadd, 1), some (.iaload, 1)], [some (.invokevirtual 109, 3), none, none, some (.pop, 1), some (.goto 387, 3), none, none, some (.aload_n 1, 1), some (.aload_n 0, 1), some (.iload_n 3, 1), some (.iconst 1, 1), some (.iadd, 1), some (.iaload, 1), some (.aload_n 0, 1), some (.iload_n 3, 1), some (.iconst 2, 1)], [some (.iadd, 1), some (.iaload, 1), some (.invokevirtual 110, 3), none, none, some (.pop, 1), some (.aload_n 2, 1), some (.aload_n 0, 1), some (.iload_n 3, 1), some (.iconst 1, 1), some (.iadd, 1), some (.iaload, 1), some (.aload_n 0, 1), some (.iload_n 3, 1), some (.iconst 2, 1), some (.iadd, 1)], [some (.iaload, 1), some (.invokevirtual 113, 3), none, none, some (.pop, 1), some (.goto 354, 3), none, none, some (.aload_n 1, 1), some (.aload_n 0, 1), some (.iload_n 3, 1), some (.iconst 1, 1), some (.iadd, 1), some (.iaload, 1), some (.aload_n 0, 1), some (.iload_n 3, 1)], [some (.iconst 2, 1), some (.iadd, 1), some (.iaload, 1), some (.invokevirtual 114, 3), none, none, some (.pop, 1), some (.aload_n 2, 1), some (.aload_n 0, 1), some (.iload_n 3, 1), some (.iconst 1, 1), some (.iadd, 1), some (.iaload, 1), some (.aload_n 0, 1), some (.iload_n 3, 1), some (.iconst 2, 1)]]
def jv_c271_5 : List (List jv_I) := [[some (.iadd, 1), some (.iaload, 1), some (.invokevirtual 117, 3), none, none, some (.pop, 1), some (.goto 321, 3), none, none, some (.aload_n 1, 1), some (.aload_n 0, 1), some (.iload_n 3, 1), some (.iconst 1, 1), some (.iadd, 1), some (.iaload, 1), some (.aload_n 0, 1)], [some (.iload_n 3, 1), some (.iconst 2, 1), some (.iadd, 1), some (.iaload, 1), some (.aload_n 0, 1), some (.iload_n 3, 1), some (.iconst 3, 1), some (.iadd, 1), some (.iaload, 1), some (.invokevirtual 118, 3), none, none, some (.pop, 1), some (.aload_n 2, 1), some (.aload_n 0, 1), some (.iload_n 3, 1)], [some (.iconst 1, 1), some (.iadd, 1), some (.iaload, 1), some (.aload_n 0, 1), some (.iload_n 3, 1), some (.iconst 2, 1), some (.iadd, 1), some (.iaload, 1), some (.aload_n 0, 1), some (.iload_n 3, 1), some (.iconst 3, 1), some (.iadd, 1), some (.iaload, 1), some (.invokevirtual 121, 3), none, none], [some (.pop, 1), some (.goto 278, 3), none, none, some (.aload_n 1, 1), some (.aload_n 0, 1), some (.iload_n 3, 1), some (.iconst 1, 1), some (.iadd, 1), some (.iaload, 1), some (.aload_n 0, 1), some (.iload_n 3, 1), some (.iconst 2, 1), some (.iadd, 1), some (.iaload, 1), some (.invokevirtual 122, 3)], [none, none, some (.pop, 1), some (.aload_n 2, 1), some (.aload_n 0, 1), some (.iload_n 3, 1), some (.iconst 1, 1), some (.iadd, 1), some (.iaload, 1), some (.aload_n 0, 1), some (.iload_n 3, 1), some (.iconst 2, 1), some (.iadd, 1), some (.iaload, 1), some (.invokevirtual 125, 3), none], [none, some (.pop, 1), some (.goto 245, 3), none, none, some (.aload_n 1, 1), some (.aload_n 0, 1), some (.iload_n 3, 1), some (.iconst 1, 1), some (.iadd, 1), some (.iaload, 1), some (.invokevirtual 126, 3), none, none, some (.pop, 1), some (.aload_n 2, 1)], [some (.aload_n 0, 1), some (.iload_n 3, 1), some (.iconst 1, 1), some (.iadd, 1), some (.iaload, 1), some (.invokevirtual 129, 3), none, none, some (.pop, 1), some (.goto 222, 3), none, none, some (.aload_n 1, 1), some (.aload_n 0, 1), some (.iload_n 3, 1), some (.iconst 1, 1)], [some (.iadd, 1), some (.iaload, 1), some (.invokevirtual 130, 3), none, none, some (.pop, 1), some (.aload_n 2, 1), some (.aload_n 0, 1), some (.iload_n 3, 1), some (.iconst 1, 1), some (.iadd, 1), some (.iaload, 1), some (.invokevirtual 133, 3), none, none, some (.pop, 1)], [some (.goto 199, 3), none, none, some (.aload_n 1, 1), some (.invokevirtual 134, 3), none, none, some (.pop, 1), some (.aload_n 2, 1), some (.invokevirtual 137, 3), none, none, some (.pop, 1), some (.goto 186, 3), none, none], [some (.aload_n 1, 1), some (.aload_n 0, 1), some (.iload_n 3, 1), some (.iconst 1, 1), some (.iadd, 1), some (.iaload, 1), some (.invokevirtual 138, 3), none, none, some (.pop, 1), some (.aload_n 2, 1), some (.aload_n 0, 1), some (.iload_n 3, 1), some (.iconst 1, 1), some (.iadd, 1), some (.iaload, 1)], [some (.invokevirtual 141, 3), none, none, some (.pop, 1), some (.goto 163, 3), none, none, some (.aload_n 1, 1), some (.aload_n 0, 1), some (.iload_n 3, 1), some (.iconst 1, 1), some (.iadd, 1), some (.iaload, 1), some (.invokevirtual 142, 3), none, none], [some (.pop, 1), some (.aload_n 2, 1), some (.aload_n 0, 1), some (.iload_n 3, 1), some (.iconst 1, 1), some (.iadd, 1), some (.iaload, 1), some (.invokevirtual 145, 3), none, none, some (.pop, 1), some (.goto 140, 3), none, none, some (.aload_n 1, 1), some (.aload_n 0, 1)]]
def jv_c271_6 : List (List jv_I) := [[some (.iload_n 3, 1), some (.iconst 1, 1), some (.iadd, 1), some (.iaload, 1), some (.aload_n 0, 1), some (.iload_n 3, 1), some (.iconst 2, 1), some (.iadd, 1), some (.iaload, 1), some (.invokevirtual 146, 3), none, none, some (.pop, 1), some (.aload_n 2, 1), some (.aload_n 0, 1), some (.iload_n 3, 1)], [some (.iconst 1, 1), some (.iadd, 1), some (.iaload, 1), some (.aload_n 0, 1), some (.iload_n 3, 1), some (.iconst 2, 1), some (.iadd, 1), some (.iaload, 1), some (.invokevirtual 149, 3), none, none, some (.pop, 1), some (.goto 107, 3), none, none, some (.aload_n 1, 1)], [some (.invokevirtual 150, 3), none, none, some (.f2d, 1), some (.dstore 4, 2), none, some (.aload_n 2, 1), some (.invokevirtual 154, 3), none, none, some (.f2d, 1), some (.dstore 6, 2), none, some (.goto 90, 3), none, none], [some (.aload_n 1, 1), some (.invokevirtual 155, 3), none, none, some (.dstore 4, 2), none, some (.aload_n 2, 1), some (.invokevirtual 159, 3), none, none, some (.dstore 6, 2), none, some (.goto 75, 3), none, none, some (.aload_n 1, 1)], [some (.invokevirtual 160, 3), none, none, some (.pop, 1), some (.aload_n 2, 1), some (.invokevirtual 163, 3), none, none, some (.pop, 1), some (.goto 62, 3), none, none, some (.aload_n 1, 1), some (.aload_n 0, 1), some (.iload_n 3, 1), some (.iconst 1, 1)], [some (.iadd, 1), some (.iaload, 1), some (.invokevirtual 164, 3), none, none, some (.pop, 1), some (.aload_n 2, 1), some (.aload_n 0, 1), some (.iload_n 3, 1), some (.iconst 1, 1), some (.iadd, 1), some (.iaload, 1), some (.invokevirtual 167, 3), none, none, some (.pop, 1)], [some (.goto 39, 3), none, none, some (.aload_n 1, 1), some (.invokevirtual 168, 3), none, none, some (.pop, 1), some (.aload_n 2, 1), some (.invokevirtual 171, 3), none, none, some (.pop, 1), some (.goto 26, 3), none, none], [some (.aload_n 1, 1), some (.aload_n 0, 1), some (.iload_n 3, 1), some (.iconst 1, 1), some (.iadd, 1), some (.iaload, 1), some (.invokevirtual 172, 3), none, none, some (.pop, 1), some (.aload_n 2, 1), some (.aload_n 0, 1), some (.iload_n 3, 1), some (.iconst 1, 1), some (.iadd, 1), some (.iaload, 1)], [some (.invokevirtual 175, 3), none, none, some (.pop, 1), some (.goto 3, 3), none, none, some (.iinc 3 6, 3), none, none, some (.goto (-1272), 3), none, none, some (.iconst 1, 1), some (.ireturn, 1)]]
def jv_c271 : List (List jv_I) := jv_c271_0 ++ jv_c271_1 ++ jv_c271_2 ++ jv_c271_3 ++ jv_c271_4 ++ jv_c271_5 ++ jv_c271_6
def jv_prog : List (List (List (List jv_I))) := [[jv_c0, jv_c1, jv_c2, jv_c3, jv_c4, jv_c5, jv_c6, jv_c7, jv_c8, jv_c9, jv_c10, jv_c11, jv_c12, jv_c13, jv_c14, jv_c15], [jv_c16, jv_c17, jv_c18, jv_c19, jv_c20, jv_c21, jv_c22, jv_c23, jv_c24, jv_c25, jv_c26, jv_c27, jv_c28, jv_c29, jv_c30, jv_c31], [jv_c32, jv_c33, jv_c34, jv_c35, jv_c36, jv_c37, jv_c38, jv_c39, jv_c40, jv_c41, jv_c42, jv_c43, jv_c44, jv_c45, jv_c46, jv_c47], [jv_c48, jv_c49, jv_c50, jv_c51, jv_c52, jv_c53, jv_c54, jv_c55, jv_c56, jv_c57, jv_c58, jv_c59, jv_c60, jv_c61, jv_c62, jv_c63], [jv_c64, jv_c65, jv_c66, jv_c67, jv_c68, jv_c69, jv_c70, jv_c71, jv_c72, jv_c73, jv_c74, jv_c75, jv_c76, jv_c77, jv_c78, jv_c79], [jv_c80, jv_c81, jv_c82, jv_c83, jv_c84, jv_c85, jv_c86, jv_c87, jv_c88, jv_c89, jv_c90, jv_c91, jv_c92, jv_c93, jv_c94, jv_c95], [jv_c96, jv_c97, jv_c98, jv_c99, jv_c100, jv_c101, jv_c102, jv_c103, jv_c104, jv_c105, jv_c106, jv_c107, jv_c108, jv_c109, jv_c110, jv_c111], [jv_c112, jv_c113, jv_c114, jv_c115, jv_c116, jv_c117, jv_c118, jv_c119, jv_c120, jv_c121, jv_c122, jv_c123, jv_c124, jv_c125, jv_c126, jv_c127], [jv_c128, jv_c129, jv_c130, jv_c131, jv_c132, jv_c133, jv_c134, jv_c135, jv_c136, jv_c137, jv_c138, jv_c139, jv_c140, jv_c141, jv_c142, jv_c143], [jv_c144, jv_c145, jv_c146, jv_c147, jv_c148, jv_c149, jv_c150, jv_c151, jv_c152, jv_c153, jv_c154, jv_c155, jv_c156, jv_c157, jv_c158, jv_c159], [jv_c160, jv_c161, jv_c162, jv_c163, jv_c164, jv_c165, jv_c166, jv_c167, jv_c168, jv_c169, jv_c170, jv_c171, jv_c172, jv_c173, jv_c174, jv_c175], [jv_c176, jv_c177, jv_c178, jv_c179, jv_c180, jv_c181, jv_c182, jv_c183, jv_c184, jv_c185, jv_c186, jv_c187, jv_c188, jv_c189, jv_c190, jv_c191], [jv_c192, jv_c193, jv_c194, jv_c195, jv_c196, jv_c197, jv_c198, jv_c199, jv_c200, jv_c201, jv_c202, jv_c203, jv_c204, jv_c205, jv_c206, jv_c207], [jv_c208, jv_c209, jv_c210, jv_c211, jv_c212, jv_c213, jv_c214, jv_c215, jv_c216, jv_c217, jv_c218, jv_c219, jv_c220, jv_c221, jv_c222, jv_c223], [jv_c224, jv_c225, jv_c226, jv_c227, jv_c228, jv_c229, jv_c230, jv_c231, jv_c232, jv_c233, jv_c234, jv_c235, jv_c236, jv_c237, jv_c238, jv_c239], [jv_c240, jv_c241, jv_c242, jv_c243, jv_c244, jv_c245, jv_c246, jv_c247, jv_c248, jv_c249, jv_c250, jv_c251, jv_c252, jv_c253, jv_c254, jv_c255], [jv_c256, jv_c257, jv_c258, jv_c259, jv_c260, jv_c261, jv_c262, jv_c263, jv_c264, jv_c265, jv_c266, jv_c267, jv_c268, jv_c269, jv_c270, jv_c271]]
def jv_code (y pc : Nat) : jv_I := match jv_nth jv_prog (y / 16) with
  | none => none
  | some a => match jv_nth a (y % 16) with
    | none => none
    | some b => match jv_nth b (pc / 16) with
      | none => none
      | some c => match jv_nth c (pc % 16) with
        | none => none
        | some d => d
/-- a method: its class, kind (0 static, 1 virtual, 2 constructor), words of arguments, locals, frames below, words below -/
def jv_i0 : List (Nat × Nat × Nat × Nat × Nat × Nat) := [(0, 2, 1, 1, 1, 20), (0, 1, 1, 1, 0, 0), (0, 1, 2, 3, 0, 0), (0, 1, 3, 3, 1, 22), (0, 1, 3, 3, 0, 0), (0, 1, 4, 4, 2, 44), (0, 1, 3, 4, 2, 44), (1, 2, 1, 2, 3, 61), (1, 1, 1, 1, 0, 0), (1, 1, 2, 2, 1, 22), (1, 1, 2, 2, 2, 44), (1, 1, 2, 2, 2, 44), (2, 2, 1, 1, 2, 40), (2, 0, 1, 1, 0, 0), (2, 1, 1, 1, 2, 42), (2, 1, 1, 2, 1, 21)]
def jv_i1 : List (Nat × Nat × Nat × Nat × Nat × Nat) := [(2, 1, 2, 2, 1, 21), (2, 1, 2, 3, 6, 120), (2, 1, 1, 1, 7, 142), (2, 1, 1, 1, 8, 162), (2, 1, 1, 3, 1, 21), (2, 1, 1, 3, 1, 21), (2, 1, 2, 2, 2, 42), (2, 1, 2, 2, 7, 142), (2, 1, 2, 3, 7, 142), (2, 1, 3, 4, 3, 63), (2, 1, 1, 3, 4, 86), (2, 1, 2, 2, 4, 86), (2, 1, 1, 2, 9, 182), (2, 1, 1, 1, 9, 182), (2, 1, 1, 1, 3, 62), (2, 1, 2, 3, 11, 224)]
def jv_i2 : List (Nat × Nat × Nat × Nat × Nat × Nat) := [(2, 1, 2, 2, 10, 203), (3, 2, 1, 1, 1, 20), (3, 1, 3, 4, 9, 187), (3, 1, 2, 3, 8, 165), (3, 1, 4, 4, 7, 142), (3, 1, 3, 3, 7, 142), (3, 1, 2, 4, 1, 21), (3, 1, 2, 3, 6, 120), (3, 1, 2, 2, 0, 0), (4, 2, 1, 1, 1, 20), (4, 1, 1, 1, 0, 0), (4, 1, 2, 3, 1, 21), (4, 1, 2, 2, 0, 0), (4, 1, 2, 2, 0, 0), (5, 2, 1, 2, 2, 40), (5, 1, 1, 2, 1, 20)]
def jv_i3 : List (Nat × Nat × Nat × Nat × Nat × Nat) := [(5, 1, 2, 3, 1, 22), (5, 1, 2, 2, 0, 0), (5, 1, 1, 1, 0, 0), (5, 1, 1, 1, 0, 0), (5, 1, 2, 2, 1, 22), (5, 1, 2, 2, 1, 22), (5, 1, 3, 3, 1, 22), (5, 1, 2, 3, 1, 21), (5, 1, 2, 2, 2, 43), (5, 1, 3, 3, 0, 0), (5, 1, 3, 3, 1, 22), (5, 1, 2, 5, 1, 21), (5, 1, 3, 4, 0, 0), (5, 1, 3, 4, 0, 0), (5, 1, 2, 2, 1, 23), (5, 1, 2, 4, 3, 67)]
def jv_i4 : List (Nat × Nat × Nat × Nat × Nat × Nat) := [(5, 1, 1, 2, 4, 90), (5, 1, 3, 7, 2, 46), (5, 1, 2, 2, 3, 72), (5, 1, 3, 4, 1, 23), (5, 0, 1, 1, 0, 0), (5, 1, 1, 3, 4, 93), (5, 1, 1, 3, 4, 93), (5, 1, 2, 6, 4, 93), (5, 1, 2, 3, 5, 118), (5, 1, 3, 3, 1, 21), (5, 1, 2, 4, 2, 43), (5, 1, 2, 4, 4, 93), (5, 1, 2, 4, 4, 93), (5, 1, 2, 6, 1, 23), (5, 1, 2, 4, 1, 23), (5, 1, 2, 4, 1, 23)]
def jv_i5 : List (Nat × Nat × Nat × Nat × Nat × Nat) := [(5, 1, 2, 4, 4, 93), (5, 1, 1, 3, 2, 46), (5, 1, 1, 3, 1, 21), (5, 1, 3, 4, 1, 23), (5, 1, 3, 4, 2, 46), (5, 1, 4, 5, 2, 46), (5, 1, 3, 5, 4, 93), (5, 1, 3, 4, 5, 115), (5, 1, 4, 8, 4, 93), (5, 1, 4, 4, 3, 69), (5, 1, 3, 3, 4, 93), (5, 1, 3, 4, 3, 67), (5, 1, 4, 8, 4, 93), (5, 1, 4, 6, 4, 93), (5, 1, 4, 4, 3, 70), (5, 1, 1, 5, 5, 120)]
def jv_i6 : List (Nat × Nat × Nat × Nat × Nat × Nat) := [(5, 1, 2, 6, 5, 115), (5, 1, 2, 6, 5, 120), (5, 1, 1, 7, 5, 120), (5, 1, 3, 3, 5, 115), (5, 1, 2, 3, 4, 93), (6, 2, 1, 1, 1, 20), (6, 1, 1, 1, 0, 0), (6, 1, 2, 2, 0, 0), (6, 1, 2, 2, 0, 0), (6, 1, 3, 3, 0, 0), (6, 1, 2, 2, 0, 0), (7, 2, 1, 2, 4, 82), (7, 1, 6, 6, 2, 43), (7, 1, 2, 2, 1, 22), (7, 1, 1, 3, 12, 246), (7, 1, 1, 1, 0, 0)]
def jv_i7 : List (Nat × Nat × Nat × Nat × Nat × Nat) := [(7, 1, 6, 7, 10, 202), (7, 1, 4, 7, 3, 67), (7, 1, 2, 3, 3, 67), (7, 1, 4, 6, 5, 120), (7, 1, 3, 5, 5, 115), (7, 1, 4, 6, 5, 120), (7, 1, 1, 3, 7, 167), (7, 1, 2, 4, 5, 111), (7, 1, 2, 2, 2, 44), (7, 1, 2, 2, 3, 65), (7, 1, 1, 1, 3, 65), (7, 1, 2, 2, 5, 115), (7, 1, 3, 4, 5, 118), (7, 1, 3, 4, 2, 43), (7, 1, 2, 2, 2, 43), (7, 1, 3, 3, 5, 116)]
def jv_i8 : List (Nat × Nat × Nat × Nat × Nat × Nat) := [(7, 1, 3, 3, 5, 116), (7, 1, 2, 2, 6, 140), (7, 1, 4, 4, 5, 120), (7, 1, 3, 3, 5, 115), (7, 1, 3, 3, 3, 72), (7, 1, 4, 4, 6, 138), (7, 1, 3, 4, 5, 120), (7, 1, 2, 2, 6, 140), (7, 1, 2, 2, 6, 145), (7, 1, 1, 1, 6, 144), (7, 1, 2, 3, 7, 167), (7, 1, 2, 2, 2, 45), (7, 1, 3, 3, 3, 67), (7, 1, 1, 2, 1, 20), (7, 1, 1, 1, 5, 115), (7, 1, 1, 1, 0, 0)]
def jv_i9 : List (Nat × Nat × Nat × Nat × Nat × Nat) := [(7, 1, 2, 2, 6, 137), (7, 1, 1, 1, 10, 210), (7, 1, 2, 2, 10, 210), (7, 0, 3, 3, 0, 0), (7, 0, 1, 1, 0, 0), (7, 1, 3, 3, 2, 43), (7, 1, 1, 2, 6, 146), (8, 2, 1, 1, 1, 20), (8, 0, 3, 3, 0, 0), (8, 0, 4, 5, 0, 0), (8, 1, 1, 1, 1, 24), (8, 0, 2, 2, 0, 0), (8, 1, 2, 2, 1, 22), (8, 1, 2, 2, 1, 22), (8, 1, 3, 3, 2, 43), (8, 0, 1, 1, 1, 22)]
def jv_i10 : List (Nat × Nat × Nat × Nat × Nat × Nat) := [(8, 0, 1, 1, 0, 0), (8, 0, 1, 1, 0, 0), (8, 0, 1, 1, 0, 0), (8, 0, 1, 1, 0, 0), (8, 0, 1, 1, 0, 0), (8, 0, 2, 3, 1, 21), (8, 0, 3, 3, 1, 20), (8, 0, 3, 3, 2, 42), (8, 0, 3, 6, 1, 21), (8, 0, 3, 5, 2, 46), (8, 0, 2, 2, 3, 70), (8, 0, 1, 3, 4, 91), (8, 0, 1, 3, 4, 91), (8, 0, 3, 4, 1, 21), (8, 0, 4, 5, 1, 21), (8, 0, 4, 6, 4, 91)]
def jv_i11 : List (Nat × Nat × Nat × Nat × Nat × Nat) := [(8, 0, 4, 4, 5, 116), (8, 0, 3, 3, 4, 91), (8, 0, 5, 7, 4, 91), (8, 0, 4, 4, 5, 117), (8, 0, 4, 4, 5, 117), (8, 0, 3, 5, 5, 113), (8, 0, 1, 6, 6, 139), (8, 0, 1, 3, 7, 164), (8, 1, 6, 8, 0, 0), (8, 1, 2, 2, 0, 0), (8, 1, 1, 1, 0, 0), (8, 1, 2, 2, 0, 0), (8, 1, 2, 2, 0, 0), (8, 1, 1, 1, 2, 41), (8, 1, 1, 1, 1, 21), (8, 1, 1, 1, 1, 21)]
def jv_i12 : List (Nat × Nat × Nat × Nat × Nat × Nat) := [(8, 1, 2, 2, 0, 0), (8, 0, 1, 1, 0, 0), (8, 1, 2, 2, 3, 61), (8, 1, 3, 4, 4, 82), (8, 1, 2, 2, 3, 61), (8, 1, 1, 2, 5, 105), (8, 0, 1, 1, 1, 22), (8, 0, 1, 3, 0, 0), (8, 0, 2, 4, 1, 22), (8, 0, 3, 5, 1, 21), (8, 1, 1, 4, 6, 126), (8, 1, 1, 2, 7, 149), (8, 1, 4, 5, 0, 0), (8, 1, 1, 2, 1, 24), (8, 0, 1, 1, 0, 0), (8, 1, 1, 4, 2, 42)]
def jv_i13 : List (Nat × Nat × Nat × Nat × Nat × Nat) := [(8, 1, 6, 8, 3, 65), (8, 0, 1, 1, 0, 0), (8, 1, 3, 3, 1, 22), (8, 1, 4, 5, 2, 45), (8, 0, 2, 4, 2, 42), (8, 1, 2, 3, 3, 65), (8, 1, 4, 6, 6, 139), (8, 1, 3, 6, 5, 113), (8, 1, 4, 6, 6, 140), (8, 1, 1, 3, 8, 186), (8, 1, 2, 3, 1, 24), (8, 1, 1, 2, 2, 46), (8, 1, 2, 4, 3, 67), (8, 1, 2, 2, 1, 24), (8, 1, 2, 2, 2, 45), (8, 1, 1, 1, 1, 24)]
def jv_i14 : List (Nat × Nat × Nat × Nat × Nat × Nat) := [(8, 1, 1, 3, 1, 21), (8, 1, 2, 4, 1, 21), (8, 1, 1, 3, 2, 44), (8, 1, 2, 2, 5, 113), (8, 1, 2, 6, 4, 91), (8, 1, 3, 4, 5, 116), (8, 1, 3, 4, 2, 45), (8, 1, 2, 2, 2, 43), (8, 1, 3, 3, 1, 21), (8, 1, 3, 5, 2, 43), (8, 1, 2, 6, 3, 67), (8, 1, 3, 8, 4, 92), (8, 1, 2, 4, 3, 67), (8, 1, 2, 4, 4, 91), (8, 1, 3, 3, 5, 114), (8, 1, 2, 3, 5, 116)]
def jv_i15 : List (Nat × Nat × Nat × Nat × Nat × Nat) := [(8, 1, 4, 4, 6, 139), (8, 1, 3, 3, 5, 113), (8, 1, 3, 3, 3, 70), (8, 1, 4, 4, 6, 137), (8, 1, 3, 4, 6, 139), (8, 1, 2, 4, 5, 113), (8, 1, 2, 6, 6, 139), (8, 1, 1, 5, 6, 140), (8, 1, 2, 3, 8, 186), (8, 1, 2, 2, 3, 65), (8, 1, 3, 3, 1, 22), (8, 1, 1, 1, 0, 0), (8, 1, 1, 1, 5, 113), (8, 1, 2, 2, 0, 0), (8, 1, 2, 2, 0, 0), (8, 1, 1, 3, 5, 113)]
def jv_i16 : List (Nat × Nat × Nat × Nat × Nat × Nat) := [(8, 1, 2, 3, 4, 91), (8, 1, 1, 1, 6, 135), (8, 1, 2, 2, 6, 135), (8, 1, 2, 2, 1, 21), (8, 1, 2, 2, 2, 42), (8, 1, 2, 3, 2, 45), (8, 1, 3, 3, 3, 67), (8, 1, 3, 3, 3, 67), (8, 1, 2, 2, 4, 89), (8, 1, 2, 2, 3, 67), (8, 1, 1, 2, 5, 110), (8, 1, 1, 1, 6, 131), (8, 1, 2, 2, 6, 131), (9, 0, 2, 3, 0, 0), (9, 0, 1, 1, 0, 0), (10, 0, 1, 8, 13, 268)]
def jv_infs : List (List (Nat × Nat × Nat × Nat × Nat × Nat)) := [jv_i0, jv_i1, jv_i2, jv_i3, jv_i4, jv_i5, jv_i6, jv_i7, jv_i8, jv_i9, jv_i10, jv_i11, jv_i12, jv_i13, jv_i14, jv_i15, jv_i16]
def jv_inf (y : Nat) : Option (Nat × Nat × Nat × Nat × Nat × Nat) := match jv_nth jv_infs (y / 16) with
  | none => none
  | some a => jv_nth a (y % 16)
abbrev jv_N : Nat := 272
def jv_y0 : List (MethodName × ByteArray × Option FieldType) := [(yX0_init, cX0_init, none), (yX0_clear, cX0_clear, none), (yX0_copyFrom, cX0_copyFrom, none), (yX0_indexOf, cX0_indexOf, (some .int)), (yX0_put, cX0_put, none), (yX0_add, cX0_add, none), (yX0_part, cX0_part, (some .int)), (yX1_init, cX1_init, none), (yX1_forget, cX1_forget, none), (yX1_trainAt, cX1_trainAt, (some (.object "SeatSwap$Train"))), (yX1_remember, cX1_remember, none), (yX1_bringBack, cX1_bringBack, none), (yX2_init, cX2_init, none), (yX2_kindOf, cX2_kindOf, (some .int)), (yX2_begin, cX2_begin, none), (yX2_nextToken, cX2_nextToken, none)]
def jv_y1 : List (MethodName × ByteArray × Option FieldType) := [(yX2_isSign, cX2_isSign, (some .boolean)), (yX2_isWord, cX2_isWord, (some .boolean)), (yX2_isKeyword, cX2_isKeyword, (some .boolean)), (yX2_isName, cX2_isName, (some .boolean)), (yX2_packedName, cX2_packedName, (some .int)), (yX2_number, cX2_number, (some .int)), (yX2_pass, cX2_pass, none), (yX2_take, cX2_take, none), (yX2_takeIfThere, cX2_takeIfThere, (some .boolean)), (yX2_takeInt, cX2_takeInt, (some .int)), (yX2_takeLike, cX2_takeLike, (some .int)), (yX2_takeFreeSeat, cX2_takeFreeSeat, (some .int)), (yX2_takeName, cX2_takeName, (some .int)), (yX2_tapeIsName, cX2_tapeIsName, (some .boolean)), (yX2_nameOnTape, cX2_nameOnTape, (some .int)), (yX2_readSetup, cX2_readSetup, (some .boolean))]
def jv_y2 : List (MethodName × ByteArray × Option FieldType) := [(yX2_readTraveller, cX2_readTraveller, none), (yX3_init, cX3_init, none), (yX3_write, cX3_write, none), (yX3_putTraveller, cX3_putTraveller, none), (yX3_putPart, cX3_putPart, none), (yX3_putLike, cX3_putLike, none), (yX3_putNumber, cX3_putNumber, none), (yX3_putText, cX3_putText, none), (yX3_put, cX3_put, none), (yX4_init, cX4_init, none), (yX4_hasRoom, cX4_hasRoom, (some .boolean)), (yX4_putFour, cX4_putFour, none), (yX4_put, cX4_put, none), (yX4_byteAt, cX4_byteAt, (some .int)), (yX5_init, cX5_init, none), (yX5_clear, cX5_clear, none)]
def jv_y3 : List (MethodName × ByteArray × Option FieldType) := [(yX5_copyFrom, cX5_copyFrom, none), (yX5_traveller, cX5_traveller, (some (.object "SeatSwap$Traveller"))), (yX5_seats, cX5_seats, (some .int)), (yX5_tables, cX5_tables, (some .int)), (yX5_isSeat, cX5_isSeat, (some .boolean)), (yX5_isTraveller, cX5_isTraveller, (some .boolean)), (yX5_isInRange, cX5_isInRange, (some .boolean)), (yX5_whoHas, cX5_whoHas, (some .int)), (yX5_isFree, cX5_isFree, (some .boolean)), (yX5_allows, cX5_allows, (some .boolean)), (yX5_maySit, cX5_maySit, (some .boolean)), (yX5_barredBy, cX5_barredBy, (some .int)), (yX5_membersAt, cX5_membersAt, (some .int)), (yX5_countAtTable, cX5_countAtTable, none), (yX5_admit, cX5_admit, none), (yX5_letOff, cX5_letOff, none)]
def jv_y4 : List (MethodName × ByteArray × Option FieldType) := [(yX5_goOn, cX5_goOn, none), (yX5_joyIn, cX5_joyIn, (some .int)), (yX5_joyOf, cX5_joyOf, (some .int)), (yX5_relativesAt, cX5_relativesAt, (some .int)), (yX5_looksForward, cX5_looksForward, (some .boolean)), (yX5_sumOfJoys, cX5_sumOfJoys, (some .int)), (yX5_grumblers, cX5_grumblers, (some .int)), (yX5_placeOf, cX5_placeOf, (some .int)), (yX5_whoIsAtPlace, cX5_whoIsAtPlace, (some .int)), (yX5_isAt, cX5_isAt, (some .boolean)), (yX5_travellersAt, cX5_travellersAt, (some .int)), (yX5_grumblersAt, cX5_grumblersAt, (some .int)), (yX5_sumOfJoysAt, cX5_sumOfJoysAt, (some .int)), (yX5_greatestFamilyAt, cX5_greatestFamilyAt, (some .int)), (yX5_membersOf, cX5_membersOf, (some .int)), (yX5_tablesOf, cX5_tablesOf, (some .int))]
def jv_y5 : List (MethodName × ByteArray × Option FieldType) := [(yX5_sumOfJoysOf, cX5_sumOfJoysOf, (some .int)), (yX5_families, cX5_families, (some .int)), (yX5_sumOfSweets, cX5_sumOfSweets, (some .int)), (yX5_sitDown, cX5_sitDown, none), (yX5_exchangeSeats, cX5_exchangeSeats, none), (yX5_passSeats, cX5_passSeats, none), (yX5_riseBySwap, cX5_riseBySwap, (some .int)), (yX5_sumIfSwapped, cX5_sumIfSwapped, (some .int)), (yX5_swapReason, cX5_swapReason, (some .int)), (yX5_doSwap, cX5_doSwap, none), (yX5_moveReason, cX5_moveReason, (some .int)), (yX5_doMove, cX5_doMove, none), (yX5_ringReason, cX5_ringReason, (some .int)), (yX5_riseByRing, cX5_riseByRing, (some .int)), (yX5_doRing, cX5_doRing, none), (yX5_risingRings, cX5_risingRings, (some .int))]
def jv_y6 : List (MethodName × ByteArray × Option FieldType) := [(yX5_bestSeatFor, cX5_bestSeatFor, (some .int)), (yX5_partnerFor, cX5_partnerFor, (some .int)), (yX5_settleOnce, cX5_settleOnce, (some .boolean)), (yX5_planSign, cX5_planSign, (some .int)), (yX5_seatSign, cX5_seatSign, (some .int)), (yX6_init, cX6_init, none), (yX6_clear, cX6_clear, none), (yX6_copyFrom, cX6_copyFrom, none), (yX6_settable, cX6_settable, (some .int)), (yX6_change, cX6_change, none), (yX6_letterAt, cX6_letterAt, (some .int)), (yX7_init, cX7_init, none), (yX7_append, cX7_append, (some .int)), (yX7_truncate, cX7_truncate, (some .int)), (yX7_load, cX7_load, (some .int)), (yX7_errorPosition, cX7_errorPosition, (some .int))]
def jv_y7 : List (MethodName × ByteArray × Option FieldType) := [(yX7_come, cX7_come, (some .int)), (yX7_set, cX7_set, (some .int)), (yX7_first, cX7_first, (some .int)), (yX7_swap, cX7_swap, (some .int)), (yX7_move, cX7_move, (some .int)), (yX7_ring, cX7_ring, (some .int)), (yX7_settle, cX7_settle, (some .int)), (yX7_station, cX7_station, (some .int)), (yX7_keep, cX7_keep, (some .int)), (yX7_restore, cX7_restore, (some .int)), (yX7_undo, cX7_undo, (some .int)), (yX7_value, cX7_value, (some .int)), (yX7_of, cX7_of, (some .int)), (yX7_letter, cX7_letter, (some .int)), (yX7_at, cX7_at, (some .int)), (yX7_table, cX7_table, (some .int))]
def jv_y8 : List (MethodName × ByteArray × Option FieldType) := [(yX7_family, cX7_family, (some .int)), (yX7_ranked, cX7_ranked, (some .int)), (yX7_why, cX7_why, (some .int)), (yX7_whyMove, cX7_whyMove, (some .int)), (yX7_joyAt, cX7_joyAt, (some .int)), (yX7_ifSwapped, cX7_ifSwapped, (some .int)), (yX7_leastPrice, cX7_leastPrice, (some .int)), (yX7_bestSeat, cX7_bestSeat, (some .int)), (yX7_partner, cX7_partner, (some .int)), (yX7_rings, cX7_rings, (some .int)), (yX7_ifSettled, cX7_ifSettled, (some .int)), (yX7_ifFirst, cX7_ifFirst, (some .int)), (yX7_log, cX7_log, (some .int)), (yX7_full, cX7_full, (some .float)), (yX7_meanJoy, cX7_meanJoy, (some .double)), (yX7_planLength, cX7_planLength, (some .int))]
def jv_y9 : List (MethodName × ByteArray × Option FieldType) := [(yX7_planByte, cX7_planByte, (some .int)), (yX7_setupLength, cX7_setupLength, (some .int)), (yX7_setupByte, cX7_setupByte, (some .int)), (yX7_isIn, cX7_isIn, (some .boolean)), (yX7_refusal, cX7_refusal, (some .int)), (yX7_arePair, cX7_arePair, (some .boolean)), (yX7_settleDraft, cX7_settleDraft, (some .int)), (yX8_init, cX8_init, none), (yX8_in, cX8_in, (some .boolean)), (yX8_layRow, cX8_layRow, none), (yX8_takesSpare, cX8_takesSpare, none), (yX8_numberAt, cX8_numberAt, (some .int)), (yX8_isTraveller, cX8_isTraveller, (some .boolean)), (yX8_isSeat, cX8_isSeat, (some .boolean)), (yX8_isPair, cX8_isPair, (some .boolean)), (yX8_isPaid, cX8_isPaid, (some .boolean))]
def jv_y10 : List (MethodName × ByteArray × Option FieldType) := [(yX8_rowOf, cX8_rowOf, (some .int)), (yX8_tableOf, cX8_tableOf, (some .int)), (yX8_isWindow, cX8_isWindow, (some .boolean)), (yX8_isForward, cX8_isForward, (some .boolean)), (yX8_tablesOf, cX8_tablesOf, (some .int)), (yX8_whoHas, cX8_whoHas, (some .int)), (yX8_mayUse, cX8_mayUse, (some .boolean)), (yX8_maySit, cX8_maySit, (some .boolean)), (yX8_kinAt, cX8_kinAt, (some .int)), (yX8_joyIn, cX8_joyIn, (some .int)), (yX8_joyOf, cX8_joyOf, (some .int)), (yX8_joyAll, cX8_joyAll, (some .int)), (yX8_grumblers, cX8_grumblers, (some .int)), (yX8_exchanges, cX8_exchanges, none), (yX8_turns, cX8_turns, none), (yX8_riseBySwap, cX8_riseBySwap, (some .int))]
def jv_y11 : List (MethodName × ByteArray × Option FieldType) := [(yX8_whySwapped, cX8_whySwapped, (some .int)), (yX8_whyMoved, cX8_whyMoved, (some .int)), (yX8_riseByRing, cX8_riseByRing, (some .int)), (yX8_whyRing, cX8_whyRing, (some .int)), (yX8_riseOfRing, cX8_riseOfRing, (some .int)), (yX8_riseOfAll, cX8_riseOfAll, (some .int)), (yX8_bestSwap, cX8_bestSwap, (some .int)), (yX8_settles, cX8_settles, (some .int)), (yX8_append, cX8_append, (some .int)), (yX8_truncate, cX8_truncate, (some .int)), (yX8_errorPosition, cX8_errorPosition, (some .int)), (yX8_isSmall, cX8_isSmall, (some .boolean)), (yX8_isDigit, cX8_isDigit, (some .boolean)), (yX8_next, cX8_next, none), (yX8_nextWord, cX8_nextWord, none), (yX8_nextNumber, cX8_nextNumber, none)]
def jv_y12 : List (MethodName × ByteArray × Option FieldType) := [(yX8_is, cX8_is, (some .boolean)), (yX8_isKeyword, cX8_isKeyword, (some .boolean)), (yX8_takes, cX8_takes, (some .boolean)), (yX8_takesNumber, cX8_takesNumber, (some .int)), (yX8_takesWord, cX8_takesWord, (some .boolean)), (yX8_takesLike, cX8_takesLike, (some .int)), (yX8_isName, cX8_isName, (some .boolean)), (yX8_nameSize, cX8_nameSize, (some .int)), (yX8_letterOf, cX8_letterOf, (some .int)), (yX8_starts, cX8_starts, none), (yX8_readSeat, cX8_readSeat, none), (yX8_load, cX8_load, (some .int)), (yX8_tells, cX8_tells, none), (yX8_keepForUndo, cX8_keepForUndo, none), (yX8_refused, cX8_refused, (some .int)), (yX8_tapeName, cX8_tapeName, (some .int))]
def jv_y13 : List (MethodName × ByteArray × Option FieldType) := [(yX8_come, cX8_come, (some .int)), (yX8_fieldOf, cX8_fieldOf, (some .int)), (yX8_isNumber, cX8_isNumber, (some .boolean)), (yX8_set, cX8_set, (some .int)), (yX8_barredBy, cX8_barredBy, (some .int)), (yX8_first, cX8_first, (some .int)), (yX8_swap, cX8_swap, (some .int)), (yX8_move, cX8_move, (some .int)), (yX8_ring, cX8_ring, (some .int)), (yX8_settle, cX8_settle, (some .int)), (yX8_getsOff, cX8_getsOff, none), (yX8_stops, cX8_stops, none), (yX8_station, cX8_station, (some .int)), (yX8_keep, cX8_keep, (some .int)), (yX8_restore, cX8_restore, (some .int)), (yX8_undo, cX8_undo, (some .int))]
def jv_y14 : List (MethodName × ByteArray × Option FieldType) := [(yX8_sweetsAll, cX8_sweetsAll, (some .int)), (yX8_membersOf, cX8_membersOf, (some .int)), (yX8_familiesAll, cX8_familiesAll, (some .int)), (yX8_value, cX8_value, (some .int)), (yX8_rankOf, cX8_rankOf, (some .int)), (yX8_of, cX8_of, (some .int)), (yX8_letter, cX8_letter, (some .int)), (yX8_at, cX8_at, (some .int)), (yX8_isAtTable, cX8_isAtTable, (some .boolean)), (yX8_membersAt, cX8_membersAt, (some .int)), (yX8_familyAt, cX8_familyAt, (some .int)), (yX8_table, cX8_table, (some .int)), (yX8_tablesOfFamily, cX8_tablesOfFamily, (some .int)), (yX8_joyOfFamily, cX8_joyOfFamily, (some .int)), (yX8_family, cX8_family, (some .int)), (yX8_ranked, cX8_ranked, (some .int))]
def jv_y15 : List (MethodName × ByteArray × Option FieldType) := [(yX8_why, cX8_why, (some .int)), (yX8_whyMove, cX8_whyMove, (some .int)), (yX8_joyAt, cX8_joyAt, (some .int)), (yX8_ifSwapped, cX8_ifSwapped, (some .int)), (yX8_leastPrice, cX8_leastPrice, (some .int)), (yX8_bestSeat, cX8_bestSeat, (some .int)), (yX8_partner, cX8_partner, (some .int)), (yX8_rings, cX8_rings, (some .int)), (yX8_ifSettled, cX8_ifSettled, (some .int)), (yX8_ifFirst, cX8_ifFirst, (some .int)), (yX8_log, cX8_log, (some .int)), (yX8_full, cX8_full, (some .float)), (yX8_meanJoy, cX8_meanJoy, (some .double)), (yX8_puts, cX8_puts, none), (yX8_writtenAt, cX8_writtenAt, (some .int)), (yX8_layPlan, cX8_layPlan, none)]
def jv_y16 : List (MethodName × ByteArray × Option FieldType) := [(yX8_putsSeat, cX8_putsSeat, none), (yX8_planLength, cX8_planLength, (some .int)), (yX8_planByte, cX8_planByte, (some .int)), (yX8_putsNumber, cX8_putsNumber, none), (yX8_putsNext, cX8_putsNext, none), (yX8_putsWord, cX8_putsWord, none), (yX8_putsPart, cX8_putsPart, none), (yX8_putsLike, cX8_putsLike, none), (yX8_putsTraveller, cX8_putsTraveller, none), (yX8_putsSweets, cX8_putsSweets, none), (yX8_laySetup, cX8_laySetup, none), (yX8_setupLength, cX8_setupLength, (some .int)), (yX8_setupByte, cX8_setupByte, (some .int)), (yJ9_floorMod_7cf53, cJ9_floorMod_7cf53, (some .int)), (yJ9_abs_0f7a4, cJ9_abs_0f7a4, (some .int)), (⟨RL, "law", "([I)Z"⟩, cL_law, some .boolean)]
def jv_ys : List (List (MethodName × ByteArray × Option FieldType)) := [jv_y0, jv_y1, jv_y2, jv_y3, jv_y4, jv_y5, jv_y6, jv_y7, jv_y8, jv_y9, jv_y10, jv_y11, jv_y12, jv_y13, jv_y14, jv_y15, jv_y16]
def jv_ym (y : Nat) : MethodName × ByteArray × Option FieldType := match jv_nth jv_ys (y / 16) with
  | none => (⟨RL, "law", "([I)Z"⟩, cL_law, none)
  | some a => (jv_nth a (y % 16)).getD (⟨RL, "law", "([I)Z"⟩, cL_law, none)
def jv_own (k : Nat) : String := ([RX0, RX1, RX2, RX3, RX4, RX5, RX6, RX7, RX8, RJ9, RL] : List String).getD k RL
def jv_fld0 : List (Nat × Nat × Nat) := [(11, (0, 0)), (15, (0, 1)), (19, (0, 2))]
def jv_fld1 : List (Nat × Nat × Nat) := [(11, (1, 0)), (16, (1, 2)), (20, (1, 1))]
def jv_fld2 : List (Nat × Nat × Nat) := [(12, (2, 0)), (21, (2, 1)), (25, (2, 5)), (29, (2, 3)), (36, (2, 2)), (39, (4, 1)), (49, (2, 4)), (129, (5, 4)), (132, (5, 5)), (143, (6, 1)), (148, (6, 0)), (154, (6, 2)), (156, (6, 3)), (161, (6, 4)), (163, (6, 5)), (165, (6, 6)), (167, (6, 7)), (170, (6, 8)), (172, (6, 9))]
def jv_fld3 : List (Nat × Nat × Nat) := [(9, (3, 0)), (15, (3, 1)), (18, (3, 2)), (27, (5, 4)), (38, (5, 5)), (44, (5, 7)), (57, (6, 1)), (66, (6, 2)), (73, (6, 3)), (82, (6, 4)), (91, (6, 5)), (94, (6, 6)), (97, (6, 7)), (104, (6, 8)), (109, (6, 9))]
def jv_fld4 : List (Nat × Nat × Nat) := [(9, (4, 0)), (13, (4, 1))]
def jv_fld5 : List (Nat × Nat × Nat) := [(11, (5, 0)), (18, (5, 1)), (22, (5, 2)), (29, (5, 3)), (33, (5, 4)), (37, (5, 5)), (43, (5, 6)), (46, (5, 7)), (49, (5, 8)), (52, (5, 9)), (55, (5, 10)), (58, (5, 11)), (61, (5, 12)), (83, (6, 1)), (90, (6, 2)), (97, (6, 3)), (108, (6, 9)), (119, (6, 7)), (122, (6, 6)), (130, (6, 4)), (137, (6, 5)), (159, (6, 8))]
def jv_fld6 : List (Nat × Nat × Nat) := [(9, (6, 0)), (15, (6, 1)), (18, (6, 2)), (21, (6, 3)), (24, (6, 4)), (27, (6, 5)), (30, (6, 6)), (33, (6, 7)), (36, (6, 8)), (39, (6, 9))]
def jv_fld7 : List (Nat × Nat × Nat) := [(10, (7, 1)), (16, (2, 0)), (20, (7, 0)), (24, (7, 2)), (31, (7, 3)), (35, (7, 4)), (41, (7, 5)), (45, (7, 6)), (49, (7, 7)), (56, (7, 8)), (60, (7, 9)), (74, (4, 1)), (85, (2, 2)), (95, (5, 7)), (122, (6, 0)), (125, (6, 1)), (128, (6, 2)), (131, (6, 3)), (134, (6, 8)), (137, (6, 9)), (144, (5, 3)), (172, (5, 4)), (175, (5, 5)), (225, (5, 8)), (228, (5, 6)), (234, (1, 2)), (247, (5, 9)), (250, (5, 10)), (253, (5, 11)), (256, (5, 12)), (265, (0, 2)), (268, (6, 4)), (271, (6, 5)), (274, (6, 6)), (277, (6, 7)), (342, (3, 0)), (343, (3, 2))]
def jv_fld8 : List (Nat × Nat × Nat) := [(7, (8, 0)), (13, (8, 1)), (16, (8, 2)), (19, (8, 3)), (22, (8, 4)), (25, (8, 5)), (29, (8, 7)), (32, (8, 9)), (36, (8, 16)), (121, (8, 8)), (124, (8, 11)), (127, (8, 12)), (130, (8, 14)), (133, (8, 13)), (148, (8, 15)), (196, (8, 6)), (289, (8, 17))]
def jv_fld9 : List (Nat × Nat × Nat) := []
def jv_fld10 : List (Nat × Nat × Nat) := []
def jv_flds : List (List (Nat × Nat × Nat)) := [jv_fld0, jv_fld1, jv_fld2, jv_fld3, jv_fld4, jv_fld5, jv_fld6, jv_fld7, jv_fld8, jv_fld9, jv_fld10]
def jv_fld (ow i : Nat) : Option (Nat × Nat) := match jv_nth jv_flds ow with
  | none => none
  | some a => jv_as a i
def jv_cal0 : List (Nat × Nat × Nat × Nat) := [(3, (900, 1, 0)), (22, (269, 2, 0)), (28, (3, 3, 0)), (31, (4, 3, 0))]
def jv_cal1 : List (Nat × Nat × Nat × Nat) := [(1, (900, 1, 0)), (15, (46, 1, 0)), (23, (269, 2, 0)), (29, (9, 2, 0)), (33, (48, 2, 0))]
def jv_cal2 : List (Nat × Nat × Nat × Nat) := [(3, (900, 1, 0)), (11, (41, 1, 0)), (20, (101, 1, 1)), (33, (15, 1, 0)), (42, (45, 2, 0)), (46, (13, 1, 0)), (52, (901, 1, 0)), (57, (902, 2, 0)), (63, (17, 2, 0)), (85, (18, 1, 0)), (89, (22, 2, 0)), (93, (21, 1, 0)), (96, (16, 2, 0)), (100, (25, 3, 0)), (104, (56, 2, 0)), (110, (50, 1, 0)), (113, (20, 1, 0)), (116, (19, 1, 0)), (119, (14, 1, 0)), (122, (47, 1, 0)), (125, (23, 2, 0)), (134, (32, 2, 0)), (138, (102, 1, 0)), (139, (27, 2, 0)), (145, (28, 1, 0)), (151, (24, 2, 0)), (158, (26, 1, 0)), (174, (57, 3, 0)), (178, (62, 2, 0))]
def jv_cal3 : List (Nat × Nat × Nat × Nat) := [(3, (900, 1, 0)), (23, (39, 2, 0)), (32, (38, 2, 0)), (41, (40, 2, 0)), (47, (49, 2, 0)), (51, (35, 2, 0)), (62, (106, 2, 0)), (76, (36, 4, 0)), (85, (37, 3, 0)), (112, (270, 1, 0)), (118, (901, 1, 0)), (123, (902, 2, 0))]
def jv_cal4 : List (Nat × Nat × Nat × Nat) := [(1, (900, 1, 0)), (17, (44, 2, 0))]
def jv_cal5 : List (Nat × Nat × Nat × Nat) := [(3, (900, 1, 0)), (17, (101, 1, 1)), (28, (0, 1, 0)), (40, (1, 1, 0)), (64, (49, 2, 0)), (68, (103, 2, 0)), (72, (2, 2, 0)), (75, (50, 1, 0)), (79, (147, 3, 1)), (86, (55, 2, 0)), (93, (57, 3, 0)), (100, (61, 3, 0)), (104, (5, 4, 0)), (111, (63, 2, 0)), (115, (67, 3, 0)), (125, (270, 1, 0)), (133, (68, 1, 0)), (140, (65, 3, 0)), (144, (60, 3, 0)), (147, (66, 2, 0)), (150, (71, 2, 0)), (153, (73, 3, 0)), (156, (78, 2, 0)), (162, (83, 3, 0)), (166, (84, 3, 0)), (169, (69, 1, 0)), (172, (58, 3, 0)), (175, (56, 2, 0)), (178, (85, 4, 0)), (181, (92, 4, 0)), (185, (93, 4, 0)), (188, (90, 3, 0)), (191, (88, 4, 0)), (194, (86, 3, 0)), (197, (100, 2, 0)), (200, (106, 2, 0))]
def jv_cal6 : List (Nat × Nat × Nat × Nat) := [(3, (900, 1, 0))]
def jv_cal7 : List (Nat × Nat × Nat × Nat) := [(1, (900, 1, 0)), (9, (12, 1, 0)), (23, (33, 1, 1)), (30, (46, 1, 0)), (40, (101, 1, 1)), (55, (7, 1, 0)), (64, (42, 1, 0)), (70, (43, 2, 0)), (77, (147, 3, 0)), (81, (31, 2, 0)), (88, (48, 2, 0)), (92, (8, 1, 0)), (98, (52, 2, 0)), (102, (29, 1, 0)), (105, (56, 2, 0)), (108, (57, 3, 0)), (112, (10, 2, 0)), (115, (102, 1, 0)), (118, (30, 1, 0)), (140, (62, 2, 0)), (150, (5, 4, 0)), (154, (53, 2, 0)), (157, (54, 3, 0)), (160, (49, 2, 0)), (164, (104, 2, 0)), (168, (105, 3, 0)), (178, (59, 2, 0)), (181, (149, 3, 0)), (184, (88, 4, 0)), (188, (148, 1, 0)), (191, (86, 3, 0)), (195, (89, 4, 0)), (198, (90, 3, 0)), (201, (65, 3, 0)), (204, (66, 2, 0)), (207, (91, 3, 0)), (210, (92, 4, 0)), (213, (93, 4, 0)), (216, (94, 4, 0)), (219, (150, 1, 0)), (222, (69, 1, 0)), (231, (64, 1, 0)), (235, (11, 2, 0)), (238, (50, 1, 0)), (241, (70, 1, 0)), (244, (82, 1, 0)), (259, (51, 1, 0)), (262, (81, 1, 0)), (280, (67, 3, 0)), (284, (71, 2, 0)), (287, (106, 2, 0)), (290, (55, 2, 0)), (293, (74, 2, 0)), (296, (75, 2, 0)), (299, (76, 2, 0)), (302, (77, 2, 0)), (305, (78, 2, 0)), (308, (79, 2, 0)), (311, (80, 2, 0)), (314, (72, 2, 0)), (317, (87, 3, 0)), (320, (96, 2, 0)), (323, (97, 2, 0)), (326, (95, 1, 0)), (329, (6, 3, 0)), (332, (143, 1, 0)), (335, (99, 3, 0)), (338, (34, 3, 0)), (346, (98, 1, 0))]
def jv_cal8 : List (Nat × Nat × Nat × Nat) := [(1, (900, 1, 0)), (42, (153, 4, 0)), (46, (152, 3, 0)), (50, (156, 2, 0)), (54, (155, 2, 0)), (58, (160, 1, 0)), (62, (166, 3, 0)), (65, (161, 1, 0)), (68, (168, 3, 0)), (72, (162, 1, 0)), (75, (163, 1, 0)), (78, (169, 3, 0)), (81, (170, 2, 0)), (85, (173, 3, 0)), (89, (167, 3, 0)), (93, (175, 4, 0)), (97, (165, 2, 0)), (100, (174, 4, 0)), (104, (178, 5, 0)), (108, (171, 1, 0)), (112, (176, 4, 0)), (115, (181, 3, 0)), (118, (182, 1, 0)), (136, (187, 2, 0)), (139, (190, 1, 0)), (142, (188, 2, 0)), (145, (191, 1, 0)), (152, (189, 1, 0)), (155, (194, 2, 0)), (159, (192, 2, 0)), (162, (195, 3, 0)), (165, (199, 1, 0)), (168, (193, 1, 0)), (171, (198, 1, 0)), (174, (201, 3, 0)), (178, (196, 2, 0)), (183, (197, 1, 0)), (193, (202, 1, 0)), (199, (207, 1, 0)), (202, (157, 2, 0)), (205, (205, 1, 0)), (208, (204, 4, 0)), (212, (210, 3, 0)), (216, (209, 1, 0)), (219, (212, 2, 0)), (222, (158, 3, 0)), (225, (159, 1, 0)), (228, (206, 1, 0)), (231, (177, 3, 0)), (234, (179, 4, 0)), (237, (180, 4, 0)), (240, (154, 1, 0)), (243, (183, 1, 0)), (246, (218, 2, 0)), (250, (219, 1, 0)), (253, (225, 2, 0)), (256, (172, 1, 0)), (259, (224, 1, 0)), (262, (164, 1, 0)), (265, (226, 1, 0)), (268, (228, 2, 0)), (271, (200, 2, 0)), (274, (232, 3, 0)), (277, (233, 3, 0)), (280, (234, 2, 0)), (283, (236, 2, 0)), (286, (237, 2, 0)), (292, (253, 2, 0)), (295, (256, 2, 0)), (298, (255, 1, 0)), (301, (254, 2, 0)), (304, (259, 2, 0)), (307, (261, 2, 0)), (310, (260, 2, 0)), (313, (262, 3, 0)), (317, (263, 3, 0)), (320, (265, 2, 0)), (323, (264, 2, 0)), (326, (266, 1, 0))]
def jv_cal9 : List (Nat × Nat × Nat × Nat) := []
def jv_cal10 : List (Nat × Nat × Nat × Nat) := [(9, (107, 1, 0)), (12, (151, 1, 0)), (13, (108, 6, 0)), (17, (184, 6, 0)), (18, (109, 2, 0)), (22, (185, 2, 0)), (23, (110, 1, 0)), (27, (203, 1, 0)), (28, (111, 1, 0)), (31, (186, 1, 0)), (32, (112, 6, 0)), (35, (208, 6, 0)), (36, (113, 4, 0)), (40, (211, 4, 0)), (41, (114, 2, 0)), (44, (213, 2, 0)), (45, (115, 4, 0)), (48, (214, 4, 0)), (49, (116, 3, 0)), (53, (215, 3, 0)), (54, (117, 4, 0)), (57, (216, 4, 0)), (58, (118, 1, 0)), (61, (217, 1, 0)), (62, (119, 2, 0)), (65, (220, 2, 0)), (66, (120, 2, 0)), (69, (221, 2, 0)), (70, (121, 2, 0)), (73, (222, 2, 0)), (74, (122, 1, 0)), (77, (223, 1, 0)), (78, (123, 2, 0)), (81, (227, 2, 0)), (82, (124, 3, 0)), (85, (229, 3, 0)), (86, (125, 3, 0)), (89, (230, 3, 0)), (90, (126, 2, 0)), (93, (231, 2, 0)), (94, (127, 3, 0)), (97, (235, 3, 0)), (98, (128, 3, 0)), (101, (238, 3, 0)), (102, (129, 2, 0)), (105, (239, 2, 0)), (106, (130, 4, 0)), (109, (240, 4, 0)), (110, (131, 3, 0)), (113, (241, 3, 0)), (114, (132, 3, 0)), (117, (242, 3, 0)), (118, (133, 4, 0)), (121, (243, 4, 0)), (122, (134, 3, 0)), (125, (244, 3, 0)), (126, (135, 2, 0)), (129, (245, 2, 0)), (130, (136, 2, 0)), (133, (246, 2, 0)), (134, (137, 1, 0)), (137, (247, 1, 0)), (138, (138, 2, 0)), (141, (248, 2, 0)), (142, (139, 2, 0)), (145, (249, 2, 0)), (146, (140, 3, 0)), (149, (250, 3, 0)), (150, (141, 1, 0)), (154, (251, 1, 0)), (155, (142, 1, 0)), (159, (252, 1, 0)), (160, (143, 1, 0)), (163, (257, 1, 0)), (164, (144, 2, 0)), (167, (258, 2, 0)), (168, (145, 1, 0)), (171, (267, 1, 0)), (172, (146, 2, 0)), (175, (268, 2, 0))]
def jv_cals : List (List (Nat × Nat × Nat × Nat)) := [jv_cal0, jv_cal1, jv_cal2, jv_cal3, jv_cal4, jv_cal5, jv_cal6, jv_cal7, jv_cal8, jv_cal9, jv_cal10]
def jv_cal (ow i : Nat) : Option (Nat × Nat × Nat) := match jv_nth jv_cals ow with
  | none => none
  | some a => jv_as a i
def jv_new0 : List (Nat × Nat) := []
def jv_new1 : List (Nat × Nat) := [(9, 5)]
def jv_new2 : List (Nat × Nat) := [(9, 4), (18, 6)]
def jv_new3 : List (Nat × Nat) := []
def jv_new4 : List (Nat × Nat) := []
def jv_new5 : List (Nat × Nat) := [(9, 6), (26, 0)]
def jv_new6 : List (Nat × Nat) := []
def jv_new7 : List (Nat × Nat) := [(7, 2), (21, 3), (28, 5), (38, 6), (53, 1)]
def jv_new8 : List (Nat × Nat) := []
def jv_new9 : List (Nat × Nat) := []
def jv_new10 : List (Nat × Nat) := [(7, 7), (10, 8)]
def jv_news : List (List (Nat × Nat)) := [jv_new0, jv_new1, jv_new2, jv_new3, jv_new4, jv_new5, jv_new6, jv_new7, jv_new8, jv_new9, jv_new10]
def jv_new (ow i : Nat) : Option (Nat) := match jv_nth jv_news ow with
  | none => none
  | some a => jv_as a i
def jv_ldc0 : List (Nat × Value) := []
def jv_ldc1 : List (Nat × Value) := []
def jv_ldc2 : List (Nat × Value) := [(61, .ref 1000001), (67, .ref 1000002), (69, .ref 1000003), (71, .ref 1000004), (73, .ref 1000005), (75, .ref 1000006), (77, .ref 1000007), (79, .ref 1000008), (81, .ref 1000009), (83, .ref 1000010)]
def jv_ldc3 : List (Nat × Value) := [(21, .ref 1000011), (36, .ref 1000012), (55, .ref 1000013), (69, .ref 1000014), (71, .ref 1000015), (80, .ref 1000016), (89, .ref 1000017), (100, .ref 1000018), (102, .ref 1000019), (107, .ref 1000020), (117, .int 100000)]
def jv_ldc4 : List (Nat × Value) := []
def jv_ldc5 : List (Nat × Value) := []
def jv_ldc6 : List (Nat × Value) := []
def jv_ldc7 : List (Nat × Value) := []
def jv_ldc8 : List (Nat × Value) := [(177, .int 291828332), (181, .int 86887672), (182, .int 335086736), (187, .int 692581), (188, .int 284954995), (189, .int 388978), (190, .int 10984100), (191, .int 3379448), (192, .int 377669)]
def jv_ldc9 : List (Nat × Value) := []
def jv_ldc10 : List (Nat × Value) := []
def jv_ldcs : List (List (Nat × Value)) := [jv_ldc0, jv_ldc1, jv_ldc2, jv_ldc3, jv_ldc4, jv_ldc5, jv_ldc6, jv_ldc7, jv_ldc8, jv_ldc9, jv_ldc10]
def jv_ldc (ow i : Nat) : Option (Value) := match jv_nth jv_ldcs ow with
  | none => none
  | some a => jv_as a i
/-- a field: what it holds, and whether it is final -/
def jv_fty (c k : Nat) : FieldType := match c with
  | 0 => tyX0 k
  | 1 => tyX1 k
  | 2 => tyX2 k
  | 3 => tyX3 k
  | 4 => tyX4 k
  | 5 => tyX5 k
  | 6 => tyX6 k
  | 7 => tyX7 k
  | _ => tyX8 k
def jv_fT (c : Nat) : u_T := match c with
  | 0 => TX0
  | 1 => TX1
  | 2 => TX2
  | 3 => TX3
  | 4 => TX4
  | 5 => TX5
  | 6 => TX6
  | 7 => TX7
  | _ => TX8
def jv_fn (c : Nat) : Nat := ([3, 3, 6, 3, 2, 13, 10, 10, 18] : List Nat).getD c 18
def jv_str : List (String × Nat × String) := [(RX2, 61, "train"), (RX2, 67, "first"), (RX2, 69, "seat"), (RX2, 71, "ticket"), (RX2, 73, "family"), (RX2, 75, "window"), (RX2, 77, "ahead"), (RX2, 79, "row"), (RX2, 81, "sweets"), (RX2, 83, "stop"), (RX3, 21, "train "), (RX3, 36, " first "), (RX3, 55, "seat "), (RX3, 69, " ticket"), (RX3, 71, " family "), (RX3, 80, " window "), (RX3, 89, " ahead "), (RX3, 100, " row "), (RX3, 102, " sweets "), (RX3, 107, " stop ")]
end
section
/-- the length of an instruction (switches apart) -/
def jv_len (i : Instr) : Nat := match i with
  | .bipush _ | .iload _ | .istore _ | .aload _ | .astore _ | .dload _ | .dstore _ | .ldc _ | .newarray _ => 2
  | .sipush _ | .iinc _ _ | .getfield _ | .putfield _ | .invokestatic _ | .invokevirtual _ | .invokespecial _ | .ifCond _ _ | .if_icmp _ _ | .goto _ | .new _ | .anewarray _ => 3
  | _ => 1
def jv_sw (i : Instr) : Bool := match i with
  | .tableswitch _ _ _ _ => true
  | .lookupswitch _ _ => true
  | _ => false
def jv_ck1 (b : ByteArray) (pc : Nat) : List jv_I → Bool
  | [] => true
  | none :: l => jv_ck1 b (pc + 1) l
  | some (i, len) :: l => decide (decode b pc = .ok (i, len)) && (jv_sw i || decide (len = jv_len i)) && jv_ck1 b (pc + 1) l
def jv_ck2 (b : ByteArray) (pc : Nat) : List (List jv_I) → Bool
  | [] => true
  | c :: l => decide (c.length ≤ 16) && jv_ck1 b pc c && jv_ck2 b (pc + 16) l
def jv_ck3 (y : Nat) : List (List (List jv_I)) → Bool
  | [] => true
  | c :: l => jv_ck2 (jv_ym y).2.1 0 c && jv_ck3 (y + 1) l
theorem jv_nil {α : Type} (n : Nat) : jv_nth ([] : List α) n = none := by cases n <;> rfl
theorem jv_ck1_of {b : ByteArray} {i : Instr} {len : Nat} : ∀ (l : List jv_I) (pc r : Nat), jv_ck1 b pc l = true → jv_nth l r = some (some (i, len)) → decode b (pc + r) = .ok (i, len) ∧ (jv_sw i = true ∨ len = jv_len i)
  | [], pc, r, _, h2 => by rw [jv_nil] at h2; cases h2
  | none :: l, pc, 0, h1, h2 => by cases h2
  | none :: l, pc, r + 1, h1, h2 => by
    have h3 := jv_ck1_of l (pc + 1) r h1 h2
    rw [show pc + (r + 1) = pc + 1 + r by omega]
    exact h3
  | some (j, len') :: l, pc, 0, h1, h2 => by
    simp only [jv_ck1, Bool.and_eq_true, decide_eq_true_eq, Bool.or_eq_true] at h1
    have h3 : some (some (j, len')) = some (some (i, len)) := h2
    cases h3
    exact ⟨h1.1.1, h1.1.2⟩
  | some (j, len') :: l, pc, r + 1, h1, h2 => by
    simp only [jv_ck1, Bool.and_eq_true] at h1
    have h3 := jv_ck1_of l (pc + 1) r h1.2 h2
    rw [show pc + (r + 1) = pc + 1 + r by omega]
    exact h3
theorem jv_ck2_of {b : ByteArray} {i : Instr} {len : Nat} {c : List jv_I} : ∀ (l : List (List jv_I)) (pc q r : Nat), jv_ck2 b pc l = true → jv_nth l q = some c → jv_nth c r = some (some (i, len)) → decode b (pc + 16 * q + r) = .ok (i, len) ∧ (jv_sw i = true ∨ len = jv_len i)
  | [], pc, q, r, _, h2, _ => by rw [jv_nil] at h2; cases h2
  | d :: l, pc, 0, r, h1, h2, h3 => by
    simp only [jv_ck2, Bool.and_eq_true] at h1
    have h4 : some d = some c := h2
    cases h4
    exact jv_ck1_of _ pc r h1.1.2 h3
  | d :: l, pc, q + 1, r, h1, h2, h3 => by
    simp only [jv_ck2, Bool.and_eq_true] at h1
    have h4 := jv_ck2_of l (pc + 16) q r h1.2 h2 h3
    rw [show pc + 16 * (q + 1) + r = pc + 16 + 16 * q + r by omega]
    exact h4
theorem jv_ck3_of {c : List (List jv_I)} : ∀ (l : List (List (List jv_I))) (y q : Nat), jv_ck3 y l = true → jv_nth l q = some c → jv_ck2 (jv_ym (y + q)).2.1 0 c = true
  | [], y, q, _, h2 => by rw [jv_nil] at h2; cases h2
  | d :: l, y, 0, h1, h2 => by
    simp only [jv_ck3, Bool.and_eq_true] at h1
    have h4 : some d = some c := h2
    cases h4
    exact h1.1
  | d :: l, y, q + 1, h1, h2 => by
    simp only [jv_ck3, Bool.and_eq_true] at h1
    rw [show y + (q + 1) = y + 1 + q by omega]
    exact jv_ck3_of l (y + 1) q h1.2 h2
def jv_ck4 (y : Nat) : List (List (List (List jv_I))) → Bool
  | [] => true
  | c :: l => jv_ck3 y c && jv_ck4 (y + 16) l
theorem jv_ck4_of {a : List (List (List jv_I))} : ∀ (l : List (List (List (List jv_I)))) (y q : Nat), jv_ck4 y l = true → jv_nth l q = some a → jv_ck3 (y + 16 * q) a = true
  | [], y, q, _, h2 => by rw [jv_nil] at h2; cases h2
  | d :: l, y, 0, h1, h2 => by
    simp only [jv_ck4, Bool.and_eq_true] at h1
    have h4 : some d = some a := h2
    cases h4
    exact h1.1
  | d :: l, y, q + 1, h1, h2 => by
    simp only [jv_ck4, Bool.and_eq_true] at h1
    rw [show y + 16 * (q + 1) = y + 16 + 16 * q by omega]
    exact jv_ck4_of l (y + 16) q h1.2 h2
theorem jv_and {a b : Bool} (h1 : a = true) (h2 : b = true) : (a && b) = true := by rw [h1, h2]; rfl
theorem jv_ck2_app {b : ByteArray} : ∀ (l1 l2 : List (List jv_I)) (pc : Nat), jv_ck2 b pc (l1 ++ l2) = (jv_ck2 b pc l1 && jv_ck2 b (pc + 16 * l1.length) l2)
  | [], l2, pc => by simp [jv_ck2]
  | c :: l1, l2, pc => by
    show (decide (c.length ≤ 16) && jv_ck1 b pc c && jv_ck2 b (pc + 16) (l1 ++ l2)) = (decide (c.length ≤ 16) && jv_ck1 b pc c && jv_ck2 b (pc + 16) l1 && jv_ck2 b (pc + 16 * (l1.length + 1)) l2)
    rw [jv_ck2_app l1 l2 (pc + 16), show pc + 16 + 16 * l1.length = pc + 16 * (l1.length + 1) by omega]
    simp only [Bool.and_assoc]
end
section
theorem jv_k0 : jv_ck2 (jv_ym 0).2.1 0 jv_c0 = true := by decide +kernel
theorem jv_k1 : jv_ck2 (jv_ym 1).2.1 0 jv_c1 = true := by decide +kernel
theorem jv_k2 : jv_ck2 (jv_ym 2).2.1 0 jv_c2 = true := by decide +kernel
theorem jv_k3 : jv_ck2 (jv_ym 3).2.1 0 jv_c3 = true := by decide +kernel
theorem jv_k4 : jv_ck2 (jv_ym 4).2.1 0 jv_c4 = true := by decide +kernel
theorem jv_k5 : jv_ck2 (jv_ym 5).2.1 0 jv_c5 = true := by decide +kernel
theorem jv_k6 : jv_ck2 (jv_ym 6).2.1 0 jv_c6 = true := by decide +kernel
theorem jv_k7 : jv_ck2 (jv_ym 7).2.1 0 jv_c7 = true := by decide +kernel
theorem jv_k8 : jv_ck2 (jv_ym 8).2.1 0 jv_c8 = true := by decide +kernel
theorem jv_k9 : jv_ck2 (jv_ym 9).2.1 0 jv_c9 = true := by decide +kernel
theorem jv_k10 : jv_ck2 (jv_ym 10).2.1 0 jv_c10 = true := by decide +kernel
theorem jv_k11 : jv_ck2 (jv_ym 11).2.1 0 jv_c11 = true := by decide +kernel
theorem jv_k12 : jv_ck2 (jv_ym 12).2.1 0 jv_c12 = true := by decide +kernel
theorem jv_k13 : jv_ck2 (jv_ym 13).2.1 0 jv_c13 = true := by decide +kernel
theorem jv_k14 : jv_ck2 (jv_ym 14).2.1 0 jv_c14 = true := by decide +kernel
theorem jv_k15 : jv_ck2 (jv_ym 15).2.1 0 jv_c15 = true := by decide +kernel
theorem jv_k16 : jv_ck2 (jv_ym 16).2.1 0 jv_c16 = true := by decide +kernel
theorem jv_k17 : jv_ck2 (jv_ym 17).2.1 0 jv_c17 = true := by decide +kernel
theorem jv_k18 : jv_ck2 (jv_ym 18).2.1 0 jv_c18 = true := by decide +kernel
theorem jv_k19 : jv_ck2 (jv_ym 19).2.1 0 jv_c19 = true := by decide +kernel
theorem jv_k20 : jv_ck2 (jv_ym 20).2.1 0 jv_c20 = true := by decide +kernel
theorem jv_k21 : jv_ck2 (jv_ym 21).2.1 0 jv_c21 = true := by decide +kernel
theorem jv_k22 : jv_ck2 (jv_ym 22).2.1 0 jv_c22 = true := by decide +kernel
theorem jv_k23 : jv_ck2 (jv_ym 23).2.1 0 jv_c23 = true := by decide +kernel
theorem jv_k24 : jv_ck2 (jv_ym 24).2.1 0 jv_c24 = true := by decide +kernel
theorem jv_k25 : jv_ck2 (jv_ym 25).2.1 0 jv_c25 = true := by decide +kernel
theorem jv_k26 : jv_ck2 (jv_ym 26).2.1 0 jv_c26 = true := by decide +kernel
theorem jv_k27 : jv_ck2 (jv_ym 27).2.1 0 jv_c27 = true := by decide +kernel
theorem jv_k28 : jv_ck2 (jv_ym 28).2.1 0 jv_c28 = true := by decide +kernel
theorem jv_k29 : jv_ck2 (jv_ym 29).2.1 0 jv_c29 = true := by decide +kernel
theorem jv_k30 : jv_ck2 (jv_ym 30).2.1 0 jv_c30 = true := by decide +kernel
theorem jv_k31 : jv_ck2 (jv_ym 31).2.1 0 jv_c31 = true := by decide +kernel
theorem jv_k32_0 : jv_ck2 (jv_ym 32).2.1 0 jv_c32_0 = true := by decide +kernel
theorem jv_k32_1 : jv_ck2 (jv_ym 32).2.1 192 jv_c32_1 = true := by decide +kernel
theorem jv_k32 : jv_ck2 (jv_ym 32).2.1 0 jv_c32 = true := by
  unfold jv_c32
  simp only [jv_ck2_app, Bool.and_eq_true]
  exact ⟨jv_k32_0, jv_k32_1⟩
theorem jv_k33 : jv_ck2 (jv_ym 33).2.1 0 jv_c33 = true := by decide +kernel
theorem jv_k34 : jv_ck2 (jv_ym 34).2.1 0 jv_c34 = true := by decide +kernel
theorem jv_k35 : jv_ck2 (jv_ym 35).2.1 0 jv_c35 = true := by decide +kernel
theorem jv_k36 : jv_ck2 (jv_ym 36).2.1 0 jv_c36 = true := by decide +kernel
theorem jv_k37 : jv_ck2 (jv_ym 37).2.1 0 jv_c37 = true := by decide +kernel
theorem jv_k38 : jv_ck2 (jv_ym 38).2.1 0 jv_c38 = true := by decide +kernel
theorem jv_k39 : jv_ck2 (jv_ym 39).2.1 0 jv_c39 = true := by decide +kernel
theorem jv_k40 : jv_ck2 (jv_ym 40).2.1 0 jv_c40 = true := by decide +kernel
theorem jv_k41 : jv_ck2 (jv_ym 41).2.1 0 jv_c41 = true := by decide +kernel
theorem jv_k42 : jv_ck2 (jv_ym 42).2.1 0 jv_c42 = true := by decide +kernel
theorem jv_k43 : jv_ck2 (jv_ym 43).2.1 0 jv_c43 = true := by decide +kernel
theorem jv_k44 : jv_ck2 (jv_ym 44).2.1 0 jv_c44 = true := by decide +kernel
theorem jv_k45 : jv_ck2 (jv_ym 45).2.1 0 jv_c45 = true := by decide +kernel
theorem jv_k46 : jv_ck2 (jv_ym 46).2.1 0 jv_c46 = true := by decide +kernel
theorem jv_k47 : jv_ck2 (jv_ym 47).2.1 0 jv_c47 = true := by decide +kernel
theorem jv_k48 : jv_ck2 (jv_ym 48).2.1 0 jv_c48 = true := by decide +kernel
theorem jv_k49 : jv_ck2 (jv_ym 49).2.1 0 jv_c49 = true := by decide +kernel
theorem jv_k50 : jv_ck2 (jv_ym 50).2.1 0 jv_c50 = true := by decide +kernel
theorem jv_k51 : jv_ck2 (jv_ym 51).2.1 0 jv_c51 = true := by decide +kernel
theorem jv_k52 : jv_ck2 (jv_ym 52).2.1 0 jv_c52 = true := by decide +kernel
theorem jv_k53 : jv_ck2 (jv_ym 53).2.1 0 jv_c53 = true := by decide +kernel
theorem jv_k54 : jv_ck2 (jv_ym 54).2.1 0 jv_c54 = true := by decide +kernel
theorem jv_k55 : jv_ck2 (jv_ym 55).2.1 0 jv_c55 = true := by decide +kernel
theorem jv_k56 : jv_ck2 (jv_ym 56).2.1 0 jv_c56 = true := by decide +kernel
theorem jv_k57 : jv_ck2 (jv_ym 57).2.1 0 jv_c57 = true := by decide +kernel
theorem jv_k58 : jv_ck2 (jv_ym 58).2.1 0 jv_c58 = true := by decide +kernel
theorem jv_k59 : jv_ck2 (jv_ym 59).2.1 0 jv_c59 = true := by decide +kernel
theorem jv_k60 : jv_ck2 (jv_ym 60).2.1 0 jv_c60 = true := by decide +kernel
theorem jv_k61 : jv_ck2 (jv_ym 61).2.1 0 jv_c61 = true := by decide +kernel
theorem jv_k62 : jv_ck2 (jv_ym 62).2.1 0 jv_c62 = true := by decide +kernel
theorem jv_k63 : jv_ck2 (jv_ym 63).2.1 0 jv_c63 = true := by decide +kernel
theorem jv_k64 : jv_ck2 (jv_ym 64).2.1 0 jv_c64 = true := by decide +kernel
theorem jv_k65 : jv_ck2 (jv_ym 65).2.1 0 jv_c65 = true := by decide +kernel
theorem jv_k66 : jv_ck2 (jv_ym 66).2.1 0 jv_c66 = true := by decide +kernel
theorem jv_k67 : jv_ck2 (jv_ym 67).2.1 0 jv_c67 = true := by decide +kernel
theorem jv_k68 : jv_ck2 (jv_ym 68).2.1 0 jv_c68 = true := by decide +kernel
theorem jv_k69 : jv_ck2 (jv_ym 69).2.1 0 jv_c69 = true := by decide +kernel
theorem jv_k70 : jv_ck2 (jv_ym 70).2.1 0 jv_c70 = true := by decide +kernel
theorem jv_k71 : jv_ck2 (jv_ym 71).2.1 0 jv_c71 = true := by decide +kernel
theorem jv_k72 : jv_ck2 (jv_ym 72).2.1 0 jv_c72 = true := by decide +kernel
theorem jv_k73 : jv_ck2 (jv_ym 73).2.1 0 jv_c73 = true := by decide +kernel
theorem jv_k74 : jv_ck2 (jv_ym 74).2.1 0 jv_c74 = true := by decide +kernel
theorem jv_k75 : jv_ck2 (jv_ym 75).2.1 0 jv_c75 = true := by decide +kernel
theorem jv_k76 : jv_ck2 (jv_ym 76).2.1 0 jv_c76 = true := by decide +kernel
theorem jv_k77 : jv_ck2 (jv_ym 77).2.1 0 jv_c77 = true := by decide +kernel
theorem jv_k78 : jv_ck2 (jv_ym 78).2.1 0 jv_c78 = true := by decide +kernel
theorem jv_k79 : jv_ck2 (jv_ym 79).2.1 0 jv_c79 = true := by decide +kernel
theorem jv_k80 : jv_ck2 (jv_ym 80).2.1 0 jv_c80 = true := by decide +kernel
theorem jv_k81 : jv_ck2 (jv_ym 81).2.1 0 jv_c81 = true := by decide +kernel
theorem jv_k82 : jv_ck2 (jv_ym 82).2.1 0 jv_c82 = true := by decide +kernel
theorem jv_k83 : jv_ck2 (jv_ym 83).2.1 0 jv_c83 = true := by decide +kernel
theorem jv_k84 : jv_ck2 (jv_ym 84).2.1 0 jv_c84 = true := by decide +kernel
theorem jv_k85 : jv_ck2 (jv_ym 85).2.1 0 jv_c85 = true := by decide +kernel
theorem jv_k86 : jv_ck2 (jv_ym 86).2.1 0 jv_c86 = true := by decide +kernel
theorem jv_k87 : jv_ck2 (jv_ym 87).2.1 0 jv_c87 = true := by decide +kernel
theorem jv_k88 : jv_ck2 (jv_ym 88).2.1 0 jv_c88 = true := by decide +kernel
theorem jv_k89 : jv_ck2 (jv_ym 89).2.1 0 jv_c89 = true := by decide +kernel
theorem jv_k90 : jv_ck2 (jv_ym 90).2.1 0 jv_c90 = true := by decide +kernel
theorem jv_k91 : jv_ck2 (jv_ym 91).2.1 0 jv_c91 = true := by decide +kernel
theorem jv_k92 : jv_ck2 (jv_ym 92).2.1 0 jv_c92 = true := by decide +kernel
theorem jv_k93 : jv_ck2 (jv_ym 93).2.1 0 jv_c93 = true := by decide +kernel
theorem jv_k94 : jv_ck2 (jv_ym 94).2.1 0 jv_c94 = true := by decide +kernel
theorem jv_k95 : jv_ck2 (jv_ym 95).2.1 0 jv_c95 = true := by decide +kernel
theorem jv_k96 : jv_ck2 (jv_ym 96).2.1 0 jv_c96 = true := by decide +kernel
theorem jv_k97 : jv_ck2 (jv_ym 97).2.1 0 jv_c97 = true := by decide +kernel
theorem jv_k98 : jv_ck2 (jv_ym 98).2.1 0 jv_c98 = true := by decide +kernel
theorem jv_k99 : jv_ck2 (jv_ym 99).2.1 0 jv_c99 = true := by decide +kernel
theorem jv_k100 : jv_ck2 (jv_ym 100).2.1 0 jv_c100 = true := by decide +kernel
theorem jv_k101 : jv_ck2 (jv_ym 101).2.1 0 jv_c101 = true := by decide +kernel
theorem jv_k102 : jv_ck2 (jv_ym 102).2.1 0 jv_c102 = true := by decide +kernel
theorem jv_k103 : jv_ck2 (jv_ym 103).2.1 0 jv_c103 = true := by decide +kernel
theorem jv_k104 : jv_ck2 (jv_ym 104).2.1 0 jv_c104 = true := by decide +kernel
theorem jv_k105 : jv_ck2 (jv_ym 105).2.1 0 jv_c105 = true := by decide +kernel
theorem jv_k106 : jv_ck2 (jv_ym 106).2.1 0 jv_c106 = true := by decide +kernel
theorem jv_k107 : jv_ck2 (jv_ym 107).2.1 0 jv_c107 = true := by decide +kernel
theorem jv_k108 : jv_ck2 (jv_ym 108).2.1 0 jv_c108 = true := by decide +kernel
theorem jv_k109 : jv_ck2 (jv_ym 109).2.1 0 jv_c109 = true := by decide +kernel
theorem jv_k110 : jv_ck2 (jv_ym 110).2.1 0 jv_c110 = true := by decide +kernel
theorem jv_k111 : jv_ck2 (jv_ym 111).2.1 0 jv_c111 = true := by decide +kernel
theorem jv_k112_0 : jv_ck2 (jv_ym 112).2.1 0 jv_c112_0 = true := by decide +kernel
theorem jv_k112_1 : jv_ck2 (jv_ym 112).2.1 192 jv_c112_1 = true := by decide +kernel
theorem jv_k112 : jv_ck2 (jv_ym 112).2.1 0 jv_c112 = true := by
  unfold jv_c112
  simp only [jv_ck2_app, Bool.and_eq_true]
  exact ⟨jv_k112_0, jv_k112_1⟩
end
section
theorem jv_k113 : jv_ck2 (jv_ym 113).2.1 0 jv_c113 = true := by decide +kernel
theorem jv_k114 : jv_ck2 (jv_ym 114).2.1 0 jv_c114 = true := by decide +kernel
theorem jv_k115 : jv_ck2 (jv_ym 115).2.1 0 jv_c115 = true := by decide +kernel
theorem jv_k116 : jv_ck2 (jv_ym 116).2.1 0 jv_c116 = true := by decide +kernel
theorem jv_k117 : jv_ck2 (jv_ym 117).2.1 0 jv_c117 = true := by decide +kernel
theorem jv_k118 : jv_ck2 (jv_ym 118).2.1 0 jv_c118 = true := by decide +kernel
theorem jv_k119 : jv_ck2 (jv_ym 119).2.1 0 jv_c119 = true := by decide +kernel
theorem jv_k120 : jv_ck2 (jv_ym 120).2.1 0 jv_c120 = true := by decide +kernel
theorem jv_k121 : jv_ck2 (jv_ym 121).2.1 0 jv_c121 = true := by decide +kernel
theorem jv_k122 : jv_ck2 (jv_ym 122).2.1 0 jv_c122 = true := by decide +kernel
theorem jv_k123_0 : jv_ck2 (jv_ym 123).2.1 0 jv_c123_0 = true := by decide +kernel
theorem jv_k123_1 : jv_ck2 (jv_ym 123).2.1 192 jv_c123_1 = true := by decide +kernel
theorem jv_k123 : jv_ck2 (jv_ym 123).2.1 0 jv_c123 = true := by
  unfold jv_c123
  simp only [jv_ck2_app, Bool.and_eq_true]
  exact ⟨jv_k123_0, jv_k123_1⟩
theorem jv_k124 : jv_ck2 (jv_ym 124).2.1 0 jv_c124 = true := by decide +kernel
theorem jv_k125 : jv_ck2 (jv_ym 125).2.1 0 jv_c125 = true := by decide +kernel
theorem jv_k126 : jv_ck2 (jv_ym 126).2.1 0 jv_c126 = true := by decide +kernel
theorem jv_k127 : jv_ck2 (jv_ym 127).2.1 0 jv_c127 = true := by decide +kernel
theorem jv_k128 : jv_ck2 (jv_ym 128).2.1 0 jv_c128 = true := by decide +kernel
theorem jv_k129 : jv_ck2 (jv_ym 129).2.1 0 jv_c129 = true := by decide +kernel
theorem jv_k130 : jv_ck2 (jv_ym 130).2.1 0 jv_c130 = true := by decide +kernel
theorem jv_k131 : jv_ck2 (jv_ym 131).2.1 0 jv_c131 = true := by decide +kernel
theorem jv_k132 : jv_ck2 (jv_ym 132).2.1 0 jv_c132 = true := by decide +kernel
theorem jv_k133 : jv_ck2 (jv_ym 133).2.1 0 jv_c133 = true := by decide +kernel
theorem jv_k134 : jv_ck2 (jv_ym 134).2.1 0 jv_c134 = true := by decide +kernel
theorem jv_k135 : jv_ck2 (jv_ym 135).2.1 0 jv_c135 = true := by decide +kernel
theorem jv_k136 : jv_ck2 (jv_ym 136).2.1 0 jv_c136 = true := by decide +kernel
theorem jv_k137 : jv_ck2 (jv_ym 137).2.1 0 jv_c137 = true := by decide +kernel
theorem jv_k138 : jv_ck2 (jv_ym 138).2.1 0 jv_c138 = true := by decide +kernel
theorem jv_k139 : jv_ck2 (jv_ym 139).2.1 0 jv_c139 = true := by decide +kernel
theorem jv_k140 : jv_ck2 (jv_ym 140).2.1 0 jv_c140 = true := by decide +kernel
theorem jv_k141 : jv_ck2 (jv_ym 141).2.1 0 jv_c141 = true := by decide +kernel
theorem jv_k142 : jv_ck2 (jv_ym 142).2.1 0 jv_c142 = true := by decide +kernel
theorem jv_k143 : jv_ck2 (jv_ym 143).2.1 0 jv_c143 = true := by decide +kernel
theorem jv_k144 : jv_ck2 (jv_ym 144).2.1 0 jv_c144 = true := by decide +kernel
theorem jv_k145 : jv_ck2 (jv_ym 145).2.1 0 jv_c145 = true := by decide +kernel
theorem jv_k146 : jv_ck2 (jv_ym 146).2.1 0 jv_c146 = true := by decide +kernel
theorem jv_k147 : jv_ck2 (jv_ym 147).2.1 0 jv_c147 = true := by decide +kernel
theorem jv_k148 : jv_ck2 (jv_ym 148).2.1 0 jv_c148 = true := by decide +kernel
theorem jv_k149 : jv_ck2 (jv_ym 149).2.1 0 jv_c149 = true := by decide +kernel
theorem jv_k150 : jv_ck2 (jv_ym 150).2.1 0 jv_c150 = true := by decide +kernel
theorem jv_k151 : jv_ck2 (jv_ym 151).2.1 0 jv_c151 = true := by decide +kernel
theorem jv_k152 : jv_ck2 (jv_ym 152).2.1 0 jv_c152 = true := by decide +kernel
theorem jv_k153 : jv_ck2 (jv_ym 153).2.1 0 jv_c153 = true := by decide +kernel
theorem jv_k154 : jv_ck2 (jv_ym 154).2.1 0 jv_c154 = true := by decide +kernel
theorem jv_k155 : jv_ck2 (jv_ym 155).2.1 0 jv_c155 = true := by decide +kernel
theorem jv_k156 : jv_ck2 (jv_ym 156).2.1 0 jv_c156 = true := by decide +kernel
theorem jv_k157 : jv_ck2 (jv_ym 157).2.1 0 jv_c157 = true := by decide +kernel
theorem jv_k158 : jv_ck2 (jv_ym 158).2.1 0 jv_c158 = true := by decide +kernel
theorem jv_k159 : jv_ck2 (jv_ym 159).2.1 0 jv_c159 = true := by decide +kernel
theorem jv_k160 : jv_ck2 (jv_ym 160).2.1 0 jv_c160 = true := by decide +kernel
theorem jv_k161 : jv_ck2 (jv_ym 161).2.1 0 jv_c161 = true := by decide +kernel
theorem jv_k162 : jv_ck2 (jv_ym 162).2.1 0 jv_c162 = true := by decide +kernel
theorem jv_k163 : jv_ck2 (jv_ym 163).2.1 0 jv_c163 = true := by decide +kernel
theorem jv_k164 : jv_ck2 (jv_ym 164).2.1 0 jv_c164 = true := by decide +kernel
theorem jv_k165 : jv_ck2 (jv_ym 165).2.1 0 jv_c165 = true := by decide +kernel
theorem jv_k166 : jv_ck2 (jv_ym 166).2.1 0 jv_c166 = true := by decide +kernel
theorem jv_k167 : jv_ck2 (jv_ym 167).2.1 0 jv_c167 = true := by decide +kernel
theorem jv_k168 : jv_ck2 (jv_ym 168).2.1 0 jv_c168 = true := by decide +kernel
theorem jv_k169 : jv_ck2 (jv_ym 169).2.1 0 jv_c169 = true := by decide +kernel
theorem jv_k170 : jv_ck2 (jv_ym 170).2.1 0 jv_c170 = true := by decide +kernel
theorem jv_k171 : jv_ck2 (jv_ym 171).2.1 0 jv_c171 = true := by decide +kernel
theorem jv_k172 : jv_ck2 (jv_ym 172).2.1 0 jv_c172 = true := by decide +kernel
theorem jv_k173 : jv_ck2 (jv_ym 173).2.1 0 jv_c173 = true := by decide +kernel
theorem jv_k174 : jv_ck2 (jv_ym 174).2.1 0 jv_c174 = true := by decide +kernel
theorem jv_k175 : jv_ck2 (jv_ym 175).2.1 0 jv_c175 = true := by decide +kernel
theorem jv_k176 : jv_ck2 (jv_ym 176).2.1 0 jv_c176 = true := by decide +kernel
theorem jv_k177 : jv_ck2 (jv_ym 177).2.1 0 jv_c177 = true := by decide +kernel
theorem jv_k178 : jv_ck2 (jv_ym 178).2.1 0 jv_c178 = true := by decide +kernel
theorem jv_k179 : jv_ck2 (jv_ym 179).2.1 0 jv_c179 = true := by decide +kernel
theorem jv_k180 : jv_ck2 (jv_ym 180).2.1 0 jv_c180 = true := by decide +kernel
theorem jv_k181 : jv_ck2 (jv_ym 181).2.1 0 jv_c181 = true := by decide +kernel
theorem jv_k182 : jv_ck2 (jv_ym 182).2.1 0 jv_c182 = true := by decide +kernel
theorem jv_k183 : jv_ck2 (jv_ym 183).2.1 0 jv_c183 = true := by decide +kernel
theorem jv_k184 : jv_ck2 (jv_ym 184).2.1 0 jv_c184 = true := by decide +kernel
theorem jv_k185 : jv_ck2 (jv_ym 185).2.1 0 jv_c185 = true := by decide +kernel
theorem jv_k186 : jv_ck2 (jv_ym 186).2.1 0 jv_c186 = true := by decide +kernel
theorem jv_k187 : jv_ck2 (jv_ym 187).2.1 0 jv_c187 = true := by decide +kernel
theorem jv_k188 : jv_ck2 (jv_ym 188).2.1 0 jv_c188 = true := by decide +kernel
theorem jv_k189 : jv_ck2 (jv_ym 189).2.1 0 jv_c189 = true := by decide +kernel
theorem jv_k190 : jv_ck2 (jv_ym 190).2.1 0 jv_c190 = true := by decide +kernel
theorem jv_k191 : jv_ck2 (jv_ym 191).2.1 0 jv_c191 = true := by decide +kernel
theorem jv_k192 : jv_ck2 (jv_ym 192).2.1 0 jv_c192 = true := by decide +kernel
theorem jv_k193 : jv_ck2 (jv_ym 193).2.1 0 jv_c193 = true := by decide +kernel
theorem jv_k194 : jv_ck2 (jv_ym 194).2.1 0 jv_c194 = true := by decide +kernel
theorem jv_k195 : jv_ck2 (jv_ym 195).2.1 0 jv_c195 = true := by decide +kernel
theorem jv_k196 : jv_ck2 (jv_ym 196).2.1 0 jv_c196 = true := by decide +kernel
theorem jv_k197 : jv_ck2 (jv_ym 197).2.1 0 jv_c197 = true := by decide +kernel
theorem jv_k198 : jv_ck2 (jv_ym 198).2.1 0 jv_c198 = true := by decide +kernel
theorem jv_k199 : jv_ck2 (jv_ym 199).2.1 0 jv_c199 = true := by decide +kernel
theorem jv_k200 : jv_ck2 (jv_ym 200).2.1 0 jv_c200 = true := by decide +kernel
theorem jv_k201 : jv_ck2 (jv_ym 201).2.1 0 jv_c201 = true := by decide +kernel
theorem jv_k202_0 : jv_ck2 (jv_ym 202).2.1 0 jv_c202_0 = true := by decide +kernel
theorem jv_k202_1 : jv_ck2 (jv_ym 202).2.1 192 jv_c202_1 = true := by decide +kernel
theorem jv_k202 : jv_ck2 (jv_ym 202).2.1 0 jv_c202 = true := by
  unfold jv_c202
  simp only [jv_ck2_app, Bool.and_eq_true]
  exact ⟨jv_k202_0, jv_k202_1⟩
theorem jv_k203_0 : jv_ck2 (jv_ym 203).2.1 0 jv_c203_0 = true := by decide +kernel
theorem jv_k203_1 : jv_ck2 (jv_ym 203).2.1 192 jv_c203_1 = true := by decide +kernel
theorem jv_k203 : jv_ck2 (jv_ym 203).2.1 0 jv_c203 = true := by
  unfold jv_c203
  simp only [jv_ck2_app, Bool.and_eq_true]
  exact ⟨jv_k203_0, jv_k203_1⟩
end
section
theorem jv_k204 : jv_ck2 (jv_ym 204).2.1 0 jv_c204 = true := by decide +kernel
theorem jv_k205 : jv_ck2 (jv_ym 205).2.1 0 jv_c205 = true := by decide +kernel
theorem jv_k206 : jv_ck2 (jv_ym 206).2.1 0 jv_c206 = true := by decide +kernel
theorem jv_k207 : jv_ck2 (jv_ym 207).2.1 0 jv_c207 = true := by decide +kernel
theorem jv_k208_0 : jv_ck2 (jv_ym 208).2.1 0 jv_c208_0 = true := by decide +kernel
theorem jv_k208_1 : jv_ck2 (jv_ym 208).2.1 192 jv_c208_1 = true := by decide +kernel
theorem jv_k208 : jv_ck2 (jv_ym 208).2.1 0 jv_c208 = true := by
  unfold jv_c208
  simp only [jv_ck2_app, Bool.and_eq_true]
  exact ⟨jv_k208_0, jv_k208_1⟩
theorem jv_k209 : jv_ck2 (jv_ym 209).2.1 0 jv_c209 = true := by decide +kernel
theorem jv_k210 : jv_ck2 (jv_ym 210).2.1 0 jv_c210 = true := by decide +kernel
theorem jv_k211 : jv_ck2 (jv_ym 211).2.1 0 jv_c211 = true := by decide +kernel
theorem jv_k212 : jv_ck2 (jv_ym 212).2.1 0 jv_c212 = true := by decide +kernel
theorem jv_k213 : jv_ck2 (jv_ym 213).2.1 0 jv_c213 = true := by decide +kernel
theorem jv_k214 : jv_ck2 (jv_ym 214).2.1 0 jv_c214 = true := by decide +kernel
theorem jv_k215 : jv_ck2 (jv_ym 215).2.1 0 jv_c215 = true := by decide +kernel
theorem jv_k216 : jv_ck2 (jv_ym 216).2.1 0 jv_c216 = true := by decide +kernel
theorem jv_k217 : jv_ck2 (jv_ym 217).2.1 0 jv_c217 = true := by decide +kernel
theorem jv_k218 : jv_ck2 (jv_ym 218).2.1 0 jv_c218 = true := by decide +kernel
theorem jv_k219 : jv_ck2 (jv_ym 219).2.1 0 jv_c219 = true := by decide +kernel
theorem jv_k220 : jv_ck2 (jv_ym 220).2.1 0 jv_c220 = true := by decide +kernel
theorem jv_k221 : jv_ck2 (jv_ym 221).2.1 0 jv_c221 = true := by decide +kernel
theorem jv_k222 : jv_ck2 (jv_ym 222).2.1 0 jv_c222 = true := by decide +kernel
theorem jv_k223 : jv_ck2 (jv_ym 223).2.1 0 jv_c223 = true := by decide +kernel
theorem jv_k224 : jv_ck2 (jv_ym 224).2.1 0 jv_c224 = true := by decide +kernel
theorem jv_k225 : jv_ck2 (jv_ym 225).2.1 0 jv_c225 = true := by decide +kernel
theorem jv_k226 : jv_ck2 (jv_ym 226).2.1 0 jv_c226 = true := by decide +kernel
theorem jv_k227 : jv_ck2 (jv_ym 227).2.1 0 jv_c227 = true := by decide +kernel
theorem jv_k228 : jv_ck2 (jv_ym 228).2.1 0 jv_c228 = true := by decide +kernel
theorem jv_k229_0 : jv_ck2 (jv_ym 229).2.1 0 jv_c229_0 = true := by decide +kernel
theorem jv_k229_1 : jv_ck2 (jv_ym 229).2.1 192 jv_c229_1 = true := by decide +kernel
theorem jv_k229 : jv_ck2 (jv_ym 229).2.1 0 jv_c229 = true := by
  unfold jv_c229
  simp only [jv_ck2_app, Bool.and_eq_true]
  exact ⟨jv_k229_0, jv_k229_1⟩
theorem jv_k230 : jv_ck2 (jv_ym 230).2.1 0 jv_c230 = true := by decide +kernel
theorem jv_k231 : jv_ck2 (jv_ym 231).2.1 0 jv_c231 = true := by decide +kernel
theorem jv_k232 : jv_ck2 (jv_ym 232).2.1 0 jv_c232 = true := by decide +kernel
theorem jv_k233 : jv_ck2 (jv_ym 233).2.1 0 jv_c233 = true := by decide +kernel
theorem jv_k234 : jv_ck2 (jv_ym 234).2.1 0 jv_c234 = true := by decide +kernel
theorem jv_k235 : jv_ck2 (jv_ym 235).2.1 0 jv_c235 = true := by decide +kernel
theorem jv_k236 : jv_ck2 (jv_ym 236).2.1 0 jv_c236 = true := by decide +kernel
theorem jv_k237 : jv_ck2 (jv_ym 237).2.1 0 jv_c237 = true := by decide +kernel
theorem jv_k238 : jv_ck2 (jv_ym 238).2.1 0 jv_c238 = true := by decide +kernel
theorem jv_k239 : jv_ck2 (jv_ym 239).2.1 0 jv_c239 = true := by decide +kernel
theorem jv_k240 : jv_ck2 (jv_ym 240).2.1 0 jv_c240 = true := by decide +kernel
theorem jv_k241 : jv_ck2 (jv_ym 241).2.1 0 jv_c241 = true := by decide +kernel
theorem jv_k242 : jv_ck2 (jv_ym 242).2.1 0 jv_c242 = true := by decide +kernel
theorem jv_k243 : jv_ck2 (jv_ym 243).2.1 0 jv_c243 = true := by decide +kernel
theorem jv_k244 : jv_ck2 (jv_ym 244).2.1 0 jv_c244 = true := by decide +kernel
theorem jv_k245 : jv_ck2 (jv_ym 245).2.1 0 jv_c245 = true := by decide +kernel
theorem jv_k246 : jv_ck2 (jv_ym 246).2.1 0 jv_c246 = true := by decide +kernel
theorem jv_k247 : jv_ck2 (jv_ym 247).2.1 0 jv_c247 = true := by decide +kernel
theorem jv_k248 : jv_ck2 (jv_ym 248).2.1 0 jv_c248 = true := by decide +kernel
theorem jv_k249 : jv_ck2 (jv_ym 249).2.1 0 jv_c249 = true := by decide +kernel
theorem jv_k250 : jv_ck2 (jv_ym 250).2.1 0 jv_c250 = true := by decide +kernel
theorem jv_k251 : jv_ck2 (jv_ym 251).2.1 0 jv_c251 = true := by decide +kernel
theorem jv_k252 : jv_ck2 (jv_ym 252).2.1 0 jv_c252 = true := by decide +kernel
theorem jv_k253 : jv_ck2 (jv_ym 253).2.1 0 jv_c253 = true := by decide +kernel
theorem jv_k254 : jv_ck2 (jv_ym 254).2.1 0 jv_c254 = true := by decide +kernel
theorem jv_k255 : jv_ck2 (jv_ym 255).2.1 0 jv_c255 = true := by decide +kernel
theorem jv_k256 : jv_ck2 (jv_ym 256).2.1 0 jv_c256 = true := by decide +kernel
theorem jv_k257 : jv_ck2 (jv_ym 257).2.1 0 jv_c257 = true := by decide +kernel
theorem jv_k258 : jv_ck2 (jv_ym 258).2.1 0 jv_c258 = true := by decide +kernel
theorem jv_k259 : jv_ck2 (jv_ym 259).2.1 0 jv_c259 = true := by decide +kernel
theorem jv_k260 : jv_ck2 (jv_ym 260).2.1 0 jv_c260 = true := by decide +kernel
theorem jv_k261 : jv_ck2 (jv_ym 261).2.1 0 jv_c261 = true := by decide +kernel
theorem jv_k262 : jv_ck2 (jv_ym 262).2.1 0 jv_c262 = true := by decide +kernel
theorem jv_k263 : jv_ck2 (jv_ym 263).2.1 0 jv_c263 = true := by decide +kernel
theorem jv_k264_0 : jv_ck2 (jv_ym 264).2.1 0 jv_c264_0 = true := by decide +kernel
theorem jv_k264_1 : jv_ck2 (jv_ym 264).2.1 192 jv_c264_1 = true := by decide +kernel
theorem jv_k264 : jv_ck2 (jv_ym 264).2.1 0 jv_c264 = true := by
  unfold jv_c264
  simp only [jv_ck2_app, Bool.and_eq_true]
  exact ⟨jv_k264_0, jv_k264_1⟩
theorem jv_k265 : jv_ck2 (jv_ym 265).2.1 0 jv_c265 = true := by decide +kernel
theorem jv_k266 : jv_ck2 (jv_ym 266).2.1 0 jv_c266 = true := by decide +kernel
theorem jv_k267 : jv_ck2 (jv_ym 267).2.1 0 jv_c267 = true := by decide +kernel
theorem jv_k268 : jv_ck2 (jv_ym 268).2.1 0 jv_c268 = true := by decide +kernel
theorem jv_k269 : jv_ck2 (jv_ym 269).2.1 0 jv_c269 = true := by decide +kernel
theorem jv_k270 : jv_ck2 (jv_ym 270).2.1 0 jv_c270 = true := by decide +kernel
theorem jv_k271_0 : jv_ck2 (jv_ym 271).2.1 0 jv_c271_0 = true := by decide +kernel
theorem jv_k271_1 : jv_ck2 (jv_ym 271).2.1 192 jv_c271_1 = true := by decide +kernel
theorem jv_k271_2 : jv_ck2 (jv_ym 271).2.1 384 jv_c271_2 = true := by decide +kernel
theorem jv_k271_3 : jv_ck2 (jv_ym 271).2.1 576 jv_c271_3 = true := by decide +kernel
theorem jv_k271_4 : jv_ck2 (jv_ym 271).2.1 768 jv_c271_4 = true := by decide +kernel
theorem jv_k271_5 : jv_ck2 (jv_ym 271).2.1 960 jv_c271_5 = true := by decide +kernel
theorem jv_k271_6 : jv_ck2 (jv_ym 271).2.1 1152 jv_c271_6 = true := by decide +kernel
theorem jv_k271 : jv_ck2 (jv_ym 271).2.1 0 jv_c271 = true := by
  unfold jv_c271
  simp only [jv_ck2_app, Bool.and_eq_true]
  exact ⟨⟨⟨⟨⟨⟨jv_k271_0, jv_k271_1⟩, jv_k271_2⟩, jv_k271_3⟩, jv_k271_4⟩, jv_k271_5⟩, jv_k271_6⟩
end
section

end
section

end
section

end
section
theorem jv_g0 : jv_ck3 0 [jv_c0, jv_c1, jv_c2, jv_c3, jv_c4, jv_c5, jv_c6, jv_c7, jv_c8, jv_c9, jv_c10, jv_c11, jv_c12, jv_c13, jv_c14, jv_c15] = true := jv_and jv_k0 (jv_and jv_k1 (jv_and jv_k2 (jv_and jv_k3 (jv_and jv_k4 (jv_and jv_k5 (jv_and jv_k6 (jv_and jv_k7 (jv_and jv_k8 (jv_and jv_k9 (jv_and jv_k10 (jv_and jv_k11 (jv_and jv_k12 (jv_and jv_k13 (jv_and jv_k14 (jv_and jv_k15 (rfl))))))))))))))))
theorem jv_g1 : jv_ck3 16 [jv_c16, jv_c17, jv_c18, jv_c19, jv_c20, jv_c21, jv_c22, jv_c23, jv_c24, jv_c25, jv_c26, jv_c27, jv_c28, jv_c29, jv_c30, jv_c31] = true := jv_and jv_k16 (jv_and jv_k17 (jv_and jv_k18 (jv_and jv_k19 (jv_and jv_k20 (jv_and jv_k21 (jv_and jv_k22 (jv_and jv_k23 (jv_and jv_k24 (jv_and jv_k25 (jv_and jv_k26 (jv_and jv_k27 (jv_and jv_k28 (jv_and jv_k29 (jv_and jv_k30 (jv_and jv_k31 (rfl))))))))))))))))
theorem jv_g2 : jv_ck3 32 [jv_c32, jv_c33, jv_c34, jv_c35, jv_c36, jv_c37, jv_c38, jv_c39, jv_c40, jv_c41, jv_c42, jv_c43, jv_c44, jv_c45, jv_c46, jv_c47] = true := jv_and jv_k32 (jv_and jv_k33 (jv_and jv_k34 (jv_and jv_k35 (jv_and jv_k36 (jv_and jv_k37 (jv_and jv_k38 (jv_and jv_k39 (jv_and jv_k40 (jv_and jv_k41 (jv_and jv_k42 (jv_and jv_k43 (jv_and jv_k44 (jv_and jv_k45 (jv_and jv_k46 (jv_and jv_k47 (rfl))))))))))))))))
theorem jv_g3 : jv_ck3 48 [jv_c48, jv_c49, jv_c50, jv_c51, jv_c52, jv_c53, jv_c54, jv_c55, jv_c56, jv_c57, jv_c58, jv_c59, jv_c60, jv_c61, jv_c62, jv_c63] = true := jv_and jv_k48 (jv_and jv_k49 (jv_and jv_k50 (jv_and jv_k51 (jv_and jv_k52 (jv_and jv_k53 (jv_and jv_k54 (jv_and jv_k55 (jv_and jv_k56 (jv_and jv_k57 (jv_and jv_k58 (jv_and jv_k59 (jv_and jv_k60 (jv_and jv_k61 (jv_and jv_k62 (jv_and jv_k63 (rfl))))))))))))))))
theorem jv_g4 : jv_ck3 64 [jv_c64, jv_c65, jv_c66, jv_c67, jv_c68, jv_c69, jv_c70, jv_c71, jv_c72, jv_c73, jv_c74, jv_c75, jv_c76, jv_c77, jv_c78, jv_c79] = true := jv_and jv_k64 (jv_and jv_k65 (jv_and jv_k66 (jv_and jv_k67 (jv_and jv_k68 (jv_and jv_k69 (jv_and jv_k70 (jv_and jv_k71 (jv_and jv_k72 (jv_and jv_k73 (jv_and jv_k74 (jv_and jv_k75 (jv_and jv_k76 (jv_and jv_k77 (jv_and jv_k78 (jv_and jv_k79 (rfl))))))))))))))))
theorem jv_g5 : jv_ck3 80 [jv_c80, jv_c81, jv_c82, jv_c83, jv_c84, jv_c85, jv_c86, jv_c87, jv_c88, jv_c89, jv_c90, jv_c91, jv_c92, jv_c93, jv_c94, jv_c95] = true := jv_and jv_k80 (jv_and jv_k81 (jv_and jv_k82 (jv_and jv_k83 (jv_and jv_k84 (jv_and jv_k85 (jv_and jv_k86 (jv_and jv_k87 (jv_and jv_k88 (jv_and jv_k89 (jv_and jv_k90 (jv_and jv_k91 (jv_and jv_k92 (jv_and jv_k93 (jv_and jv_k94 (jv_and jv_k95 (rfl))))))))))))))))
theorem jv_g6 : jv_ck3 96 [jv_c96, jv_c97, jv_c98, jv_c99, jv_c100, jv_c101, jv_c102, jv_c103, jv_c104, jv_c105, jv_c106, jv_c107, jv_c108, jv_c109, jv_c110, jv_c111] = true := jv_and jv_k96 (jv_and jv_k97 (jv_and jv_k98 (jv_and jv_k99 (jv_and jv_k100 (jv_and jv_k101 (jv_and jv_k102 (jv_and jv_k103 (jv_and jv_k104 (jv_and jv_k105 (jv_and jv_k106 (jv_and jv_k107 (jv_and jv_k108 (jv_and jv_k109 (jv_and jv_k110 (jv_and jv_k111 (rfl))))))))))))))))
theorem jv_g7 : jv_ck3 112 [jv_c112, jv_c113, jv_c114, jv_c115, jv_c116, jv_c117, jv_c118, jv_c119, jv_c120, jv_c121, jv_c122, jv_c123, jv_c124, jv_c125, jv_c126, jv_c127] = true := jv_and jv_k112 (jv_and jv_k113 (jv_and jv_k114 (jv_and jv_k115 (jv_and jv_k116 (jv_and jv_k117 (jv_and jv_k118 (jv_and jv_k119 (jv_and jv_k120 (jv_and jv_k121 (jv_and jv_k122 (jv_and jv_k123 (jv_and jv_k124 (jv_and jv_k125 (jv_and jv_k126 (jv_and jv_k127 (rfl))))))))))))))))
theorem jv_g8 : jv_ck3 128 [jv_c128, jv_c129, jv_c130, jv_c131, jv_c132, jv_c133, jv_c134, jv_c135, jv_c136, jv_c137, jv_c138, jv_c139, jv_c140, jv_c141, jv_c142, jv_c143] = true := jv_and jv_k128 (jv_and jv_k129 (jv_and jv_k130 (jv_and jv_k131 (jv_and jv_k132 (jv_and jv_k133 (jv_and jv_k134 (jv_and jv_k135 (jv_and jv_k136 (jv_and jv_k137 (jv_and jv_k138 (jv_and jv_k139 (jv_and jv_k140 (jv_and jv_k141 (jv_and jv_k142 (jv_and jv_k143 (rfl))))))))))))))))
theorem jv_g9 : jv_ck3 144 [jv_c144, jv_c145, jv_c146, jv_c147, jv_c148, jv_c149, jv_c150, jv_c151, jv_c152, jv_c153, jv_c154, jv_c155, jv_c156, jv_c157, jv_c158, jv_c159] = true := jv_and jv_k144 (jv_and jv_k145 (jv_and jv_k146 (jv_and jv_k147 (jv_and jv_k148 (jv_and jv_k149 (jv_and jv_k150 (jv_and jv_k151 (jv_and jv_k152 (jv_and jv_k153 (jv_and jv_k154 (jv_and jv_k155 (jv_and jv_k156 (jv_and jv_k157 (jv_and jv_k158 (jv_and jv_k159 (rfl))))))))))))))))
theorem jv_g10 : jv_ck3 160 [jv_c160, jv_c161, jv_c162, jv_c163, jv_c164, jv_c165, jv_c166, jv_c167, jv_c168, jv_c169, jv_c170, jv_c171, jv_c172, jv_c173, jv_c174, jv_c175] = true := jv_and jv_k160 (jv_and jv_k161 (jv_and jv_k162 (jv_and jv_k163 (jv_and jv_k164 (jv_and jv_k165 (jv_and jv_k166 (jv_and jv_k167 (jv_and jv_k168 (jv_and jv_k169 (jv_and jv_k170 (jv_and jv_k171 (jv_and jv_k172 (jv_and jv_k173 (jv_and jv_k174 (jv_and jv_k175 (rfl))))))))))))))))
theorem jv_g11 : jv_ck3 176 [jv_c176, jv_c177, jv_c178, jv_c179, jv_c180, jv_c181, jv_c182, jv_c183, jv_c184, jv_c185, jv_c186, jv_c187, jv_c188, jv_c189, jv_c190, jv_c191] = true := jv_and jv_k176 (jv_and jv_k177 (jv_and jv_k178 (jv_and jv_k179 (jv_and jv_k180 (jv_and jv_k181 (jv_and jv_k182 (jv_and jv_k183 (jv_and jv_k184 (jv_and jv_k185 (jv_and jv_k186 (jv_and jv_k187 (jv_and jv_k188 (jv_and jv_k189 (jv_and jv_k190 (jv_and jv_k191 (rfl))))))))))))))))
theorem jv_g12 : jv_ck3 192 [jv_c192, jv_c193, jv_c194, jv_c195, jv_c196, jv_c197, jv_c198, jv_c199, jv_c200, jv_c201, jv_c202, jv_c203, jv_c204, jv_c205, jv_c206, jv_c207] = true := jv_and jv_k192 (jv_and jv_k193 (jv_and jv_k194 (jv_and jv_k195 (jv_and jv_k196 (jv_and jv_k197 (jv_and jv_k198 (jv_and jv_k199 (jv_and jv_k200 (jv_and jv_k201 (jv_and jv_k202 (jv_and jv_k203 (jv_and jv_k204 (jv_and jv_k205 (jv_and jv_k206 (jv_and jv_k207 (rfl))))))))))))))))
theorem jv_g13 : jv_ck3 208 [jv_c208, jv_c209, jv_c210, jv_c211, jv_c212, jv_c213, jv_c214, jv_c215, jv_c216, jv_c217, jv_c218, jv_c219, jv_c220, jv_c221, jv_c222, jv_c223] = true := jv_and jv_k208 (jv_and jv_k209 (jv_and jv_k210 (jv_and jv_k211 (jv_and jv_k212 (jv_and jv_k213 (jv_and jv_k214 (jv_and jv_k215 (jv_and jv_k216 (jv_and jv_k217 (jv_and jv_k218 (jv_and jv_k219 (jv_and jv_k220 (jv_and jv_k221 (jv_and jv_k222 (jv_and jv_k223 (rfl))))))))))))))))
theorem jv_g14 : jv_ck3 224 [jv_c224, jv_c225, jv_c226, jv_c227, jv_c228, jv_c229, jv_c230, jv_c231, jv_c232, jv_c233, jv_c234, jv_c235, jv_c236, jv_c237, jv_c238, jv_c239] = true := jv_and jv_k224 (jv_and jv_k225 (jv_and jv_k226 (jv_and jv_k227 (jv_and jv_k228 (jv_and jv_k229 (jv_and jv_k230 (jv_and jv_k231 (jv_and jv_k232 (jv_and jv_k233 (jv_and jv_k234 (jv_and jv_k235 (jv_and jv_k236 (jv_and jv_k237 (jv_and jv_k238 (jv_and jv_k239 (rfl))))))))))))))))
theorem jv_g15 : jv_ck3 240 [jv_c240, jv_c241, jv_c242, jv_c243, jv_c244, jv_c245, jv_c246, jv_c247, jv_c248, jv_c249, jv_c250, jv_c251, jv_c252, jv_c253, jv_c254, jv_c255] = true := jv_and jv_k240 (jv_and jv_k241 (jv_and jv_k242 (jv_and jv_k243 (jv_and jv_k244 (jv_and jv_k245 (jv_and jv_k246 (jv_and jv_k247 (jv_and jv_k248 (jv_and jv_k249 (jv_and jv_k250 (jv_and jv_k251 (jv_and jv_k252 (jv_and jv_k253 (jv_and jv_k254 (jv_and jv_k255 (rfl))))))))))))))))
theorem jv_g16 : jv_ck3 256 [jv_c256, jv_c257, jv_c258, jv_c259, jv_c260, jv_c261, jv_c262, jv_c263, jv_c264, jv_c265, jv_c266, jv_c267, jv_c268, jv_c269, jv_c270, jv_c271] = true := jv_and jv_k256 (jv_and jv_k257 (jv_and jv_k258 (jv_and jv_k259 (jv_and jv_k260 (jv_and jv_k261 (jv_and jv_k262 (jv_and jv_k263 (jv_and jv_k264 (jv_and jv_k265 (jv_and jv_k266 (jv_and jv_k267 (jv_and jv_k268 (jv_and jv_k269 (jv_and jv_k270 (jv_and jv_k271 (rfl))))))))))))))))
theorem jv_ck : jv_ck4 0 jv_prog = true := jv_and jv_g0 (jv_and jv_g1 (jv_and jv_g2 (jv_and jv_g3 (jv_and jv_g4 (jv_and jv_g5 (jv_and jv_g6 (jv_and jv_g7 (jv_and jv_g8 (jv_and jv_g9 (jv_and jv_g10 (jv_and jv_g11 (jv_and jv_g12 (jv_and jv_g13 (jv_and jv_g14 (jv_and jv_g15 (jv_and jv_g16 (rfl)))))))))))))))))
/-- the tables tell the code -/
theorem jv_code_ok {y pc : Nat} {i : Instr} {len : Nat} (h : jv_code y pc = some (i, len)) : decode (jv_ym y).2.1 pc = .ok (i, len) ∧ (jv_sw i = true ∨ len = jv_len i) := by
  unfold jv_code at h
  split at h
  · cases h
  · rename_i a ha
    split at h
    · cases h
    · rename_i b hb
      split at h
      · cases h
      · rename_i c hc
        split at h
        · cases h
        · rename_i d hd
          have h1 := jv_ck4_of _ 0 _ jv_ck ha
          have h2 := jv_ck3_of _ _ _ h1 hb
          have h3 := jv_ck2_of _ 0 _ _ h2 hc (hd.trans (congrArg some h))
          rw [show 0 + 16 * (y / 16) + y % 16 = y by omega, show 0 + 16 * (pc / 16) + pc % 16 = pc by omega] at h3
          exact h3
end
section
/-! THE TABLES' WORDS, by their places in lw_tbl: printed by wip/gen/words.py -/
/-- the words that every method here is given -/
def jv_T : List Cond := lw_tbl.filter goodWord
def jv_in (i : Nat) (w : Cond) : Bool := decide (lw_tbl[i]? = some w) && goodWord w
theorem jv_in_ok {i : Nat} {w : Cond} (h : jv_in i w = true) : w ∈ jv_T := by
  simp only [jv_in, Bool.and_eq_true, decide_eq_true_eq] at h
  exact List.mem_filter.mpr ⟨List.mem_of_getElem? h.1, h.2⟩
theorem jv_as_mem {α : Type} {n : Nat} {v : α} : ∀ (l : List (Nat × α)), jv_as l n = some v → (n, v) ∈ l
  | [], h => by cases h
  | a :: l, h => by
    unfold jv_as at h
    split at h
    · rename_i e
      cases h
      rw [← e]
      exact List.mem_cons_self
    · exact List.mem_cons_of_mem _ (jv_as_mem l h)
def jv_byt : List (List Int32) := [[116, 114, 97, 105, 110], [102, 105, 114, 115, 116], [115, 101, 97, 116], [116, 105, 99, 107, 101, 116], [102, 97, 109, 105, 108, 121], [119, 105, 110, 100, 111, 119], [97, 104, 101, 97, 100], [114, 111, 119], [115, 119, 101, 101, 116, 115], [115, 116, 111, 112], [116, 114, 97, 105, 110, 32], [32, 102, 105, 114, 115, 116, 32], [115, 101, 97, 116, 32], [32, 116, 105, 99, 107, 101, 116], [32, 102, 97, 109, 105, 108, 121, 32], [32, 119, 105, 110, 100, 111, 119, 32], [32, 97, 104, 101, 97, 100, 32], [32, 114, 111, 119, 32], [32, 115, 119, 101, 101, 116, 115, 32], [32, 115, 116, 111, 112, 32]]
def jv_lens : List Nat := [5, 5, 4, 6, 6, 6, 5, 3, 6, 4, 6, 7, 5, 7, 8, 8, 7, 5, 8, 6]
/-- which text lies at a place: 1000001 + its number -/
def jv_tix (a : Nat) : Option Nat := (List.range 20).find? (fun i => Nat.beq a (1000001 + i))
theorem jv_tix_eq {a i : Nat} (h : jv_tix a = some i) : i < 20 ∧ a = 1000001 + i := by
  unfold jv_tix at h
  exact ⟨List.mem_range.mp (List.mem_of_find?_eq_some h), Nat.eq_of_beq_eq_true (List.find?_some (p := fun i => Nat.beq a (1000001 + i)) h)⟩
def jv_hm0 : List (List Nat) := [[250, 249, 0, 85], [410, 408, 409, 85], [583, 581, 582, 85], [634, 633, 19, 85], [639, 638, 20, 85], [630, 628, 629, 85], [969, 967, 968, 85], [325, 324, 0, 86], [587, 585, 586, 86], [616, 615, 18, 86], [612, 610, 611, 86], [808, 806, 807, 86], [105, 104, 0, 80], [425, 424, 0, 80], [414, 413, 1, 80], [418, 417, 2, 80]]
def jv_hm1 : List (List Nat) := [[499, 498, 8, 80], [434, 433, 4, 80], [544, 543, 14, 80], [540, 539, 13, 80], [536, 535, 12, 80], [494, 493, 7, 80], [486, 485, 5, 80], [430, 429, 3, 80], [555, 554, 15, 80], [490, 489, 6, 80], [559, 558, 16, 80], [512, 511, 10, 80], [532, 531, 11, 80], [606, 604, 605, 80], [625, 623, 624, 80], [402, 400, 401, 80]]
def jv_hm2 : List (List Nat) := [[503, 502, 9, 80], [223, 222, 0, 83], [1003, 1001, 1002, 83], [1025, 1024, 33, 83], [1033, 1032, 34, 83], [1038, 1037, 35, 83], [1018, 1017, 32, 83], [1008, 1007, 30, 83], [1014, 1013, 31, 83], [111, 110, 0, 81], [379, 377, 378, 81], [383, 381, 382, 81], [387, 386, 0, 81], [422, 420, 421, 81], [241, 240, 0, 84], [406, 404, 405, 84]]
def jv_hm3 : List (List Nat) := [[579, 577, 578, 84], [524, 522, 523, 84], [528, 526, 527, 84], [825, 823, 824, 84], [600, 598, 599, 84], [647, 645, 646, 84], [651, 649, 650, 84], [520, 518, 519, 84], [516, 514, 515, 84], [563, 561, 562, 84], [684, 682, 683, 84], [668, 666, 667, 84], [701, 700, 22, 84], [575, 574, 17, 84], [567, 565, 566, 84], [792, 791, 27, 84]]
def jv_hm4 : List (List Nat) := [[788, 786, 787, 84], [693, 691, 692, 84], [689, 687, 688, 84], [697, 695, 696, 84], [707, 706, 0, 84], [778, 776, 777, 84], [817, 815, 816, 84], [842, 840, 841, 84], [900, 898, 899, 84], [867, 866, 28, 84], [863, 861, 862, 84], [871, 869, 870, 84], [875, 873, 874, 84], [879, 877, 878, 84], [833, 831, 832, 84], [888, 886, 887, 84]]
def jv_hm5 : List (List Nat) := [[892, 890, 891, 84], [829, 827, 828, 84], [821, 819, 820, 84], [715, 714, 24, 84], [711, 710, 23, 84], [754, 753, 25, 84], [722, 720, 721, 84], [921, 919, 920, 84], [680, 678, 679, 84], [726, 724, 725, 84], [735, 733, 734, 84], [742, 740, 741, 84], [750, 748, 749, 84], [758, 756, 757, 84], [762, 760, 761, 84], [951, 949, 950, 84]]
def jv_hm6 : List (List Nat) := [[933, 931, 932, 84], [942, 940, 941, 84], [774, 772, 773, 84], [990, 988, 989, 84], [994, 993, 29, 84], [127, 126, 0, 82], [507, 505, 506, 82], [571, 569, 570, 82], [656, 654, 655, 82], [660, 658, 659, 82], [850, 848, 849, 82], [97, 96, 0, 79], [375, 373, 374, 79], [391, 389, 390, 79], [398, 396, 397, 79], [592, 590, 591, 79]]
def jv_hm7 : List (List Nat) := [[596, 594, 595, 79], [643, 641, 642, 79], [664, 662, 663, 79], [672, 670, 671, 79], [731, 729, 730, 79], [746, 744, 745, 79], [766, 764, 765, 79], [784, 782, 783, 79], [796, 794, 795, 79], [800, 798, 799, 79], [804, 802, 803, 79], [812, 810, 811, 79], [837, 835, 836, 79], [846, 844, 845, 79], [854, 852, 853, 79], [859, 857, 858, 79]]
def jv_hm8 : List (List Nat) := [[883, 881, 882, 79], [896, 894, 895, 79], [905, 903, 904, 79], [909, 907, 908, 79], [913, 911, 912, 79], [917, 915, 916, 79], [925, 923, 924, 79], [929, 927, 928, 79], [938, 936, 937, 79], [947, 945, 946, 79], [957, 955, 956, 79], [961, 959, 960, 79], [965, 963, 964, 79], [973, 971, 972, 79], [977, 975, 976, 79], [981, 979, 980, 79]]
def jv_hm9 : List (List Nat) := [[985, 983, 984, 79], [999, 997, 998, 79], [1047, 1045, 1046, 79], [394, 393, 0, 79], [718, 717, 0, 79], [676, 675, 21, 79], [770, 769, 26, 79], [1052, 1051, 0, 87], [1159, 1158, 0, 87], [1209, 1208, 0, 87], [1323, 1322, 54, 87], [1171, 1170, 0, 87], [1237, 1236, 51, 87], [1221, 1220, 48, 87], [1259, 1258, 53, 87], [1262, 1261, 0, 87]]
def jv_hm10 : List (List Nat) := [[1206, 1205, 0, 87], [1277, 1276, 0, 87], [1283, 1282, 0, 87], [1286, 1285, 0, 87], [1373, 1372, 0, 87], [1168, 1167, 0, 87], [1203, 1202, 0, 87], [1200, 1199, 0, 87], [1280, 1279, 0, 87], [1274, 1273, 0, 87], [1271, 1270, 0, 87], [1326, 1325, 0, 87], [1366, 1365, 0, 87], [1289, 1288, 0, 87], [1312, 1311, 0, 87], [1268, 1267, 0, 87]]
def jv_hm11 : List (List Nat) := [[1265, 1264, 0, 87], [1299, 1298, 0, 87], [1309, 1308, 0, 87], [1306, 1305, 0, 87], [1315, 1314, 0, 87], [1335, 1334, 0, 87], [1332, 1331, 0, 87], [1329, 1328, 0, 87], [1111, 1109, 1110, 87], [1115, 1113, 1114, 87], [1119, 1117, 1118, 87], [1131, 1130, 37, 87], [1139, 1138, 39, 87], [1127, 1126, 36, 87], [1135, 1134, 38, 87], [1143, 1142, 40, 87]]
def jv_hm12 : List (List Nat) := [[1148, 1147, 41, 87], [1180, 1179, 0, 87], [1152, 1151, 42, 87], [1156, 1155, 43, 87], [1188, 1187, 45, 87], [1194, 1193, 46, 87], [1174, 1173, 0, 87], [1177, 1176, 0, 87], [1396, 1395, 0, 87], [1183, 1182, 0, 87], [1165, 1164, 44, 87], [1123, 1121, 1122, 87], [1229, 1228, 50, 87], [1225, 1224, 49, 87], [1292, 1291, 0, 87], [1217, 1216, 47, 87]]
def jv_hm13 : List (List Nat) := [[1213, 1211, 1212, 87], [1244, 1243, 0, 87], [1241, 1240, 52, 87], [1233, 1231, 1232, 87], [1251, 1250, 0, 87], [1248, 1246, 1247, 87], [1255, 1253, 1254, 87], [1296, 1294, 1295, 87], [1303, 1301, 1302, 87], [1319, 1317, 1318, 87], [1347, 1346, 56, 87], [1343, 1342, 55, 87], [1339, 1337, 1338, 87], [1351, 1349, 1350, 87], [1355, 1353, 1354, 87], [1359, 1357, 1358, 87]]
def jv_hm14 : List (List Nat) := [[1370, 1369, 57, 87], [1381, 1380, 59, 87], [1377, 1376, 58, 87], [1363, 1361, 1362, 87], [1389, 1388, 60, 87], [1385, 1383, 1384, 87], [1393, 1391, 1392, 87], [1400, 1398, 1399, 87], [1408, 1407, 61, 87], [1416, 1415, 63, 87], [1412, 1411, 62, 87], [1404, 1402, 1403, 87], [1424, 1423, 64, 87], [1428, 1427, 65, 87], [1420, 1418, 1419, 87], [1432, 1430, 1431, 87]]
def jv_hm15 : List (List Nat) := [[1436, 1434, 1435, 87], [1440, 1438, 1439, 87], [1444, 1442, 1443, 87], [1448, 1446, 1447, 87], [1452, 1450, 1451, 87], [1456, 1454, 1455, 87], [1460, 1458, 1459, 87], [1464, 1462, 1463, 87], [1468, 1466, 1467, 87], [1472, 1470, 1471, 87], [1476, 1474, 1475, 87], [1480, 1478, 1479, 87], [1484, 1482, 1483, 87], [1496, 1495, 67, 87], [1508, 1507, 69, 87], [1492, 1491, 66, 87]]
def jv_hm16 : List (List Nat) := [[1500, 1499, 68, 87], [1488, 1486, 1487, 87], [1504, 1502, 1503, 87], [1528, 1527, 73, 87], [1524, 1523, 72, 87], [1520, 1519, 71, 87], [1536, 1535, 75, 87], [1540, 1539, 76, 87], [1532, 1531, 74, 87], [1544, 1543, 77, 87], [1516, 1515, 70, 87], [1512, 1510, 1511, 87], [1548, 1546, 1547, 87], [619, 618, 0, 92], [704, 703, 0, 92]]
def jv_hms : List (List (List Nat)) := [jv_hm0, jv_hm1, jv_hm2, jv_hm3, jv_hm4, jv_hm5, jv_hm6, jv_hm7, jv_hm8, jv_hm9, jv_hm10, jv_hm11, jv_hm12, jv_hm13, jv_hm14, jv_hm15, jv_hm16]
def jv_hm (y : Nat) : Option (List Nat) := match jv_nth jv_hms (y / 16) with
  | none => none
  | some a => jv_nth a (y % 16)
def jv_ckm (y : Nat) : Bool := match jv_inf y, jv_hm y with
  | some (ow, kd, na, mL, _, _), some [a, b, c, d] =>
    jv_in a (.code (jv_ym y).1 (jv_ym y).2.1 mL (jv_ym y).2.2) && jv_in d (.initialized (jv_ym y).1.cls) && plainFor (jv_ym y).1 &&
    decide ((jv_ym y).1.cls = jv_own ow ∧ ((jv_ym y).1.cls ≠ "java/lang/invoke/MethodHandle" ∧ (jv_ym y).1.cls ≠ "java/lang/invoke/VarHandle" ∧ (parseMethodDescriptor (jv_ym y).1.desc).map (fun d => d.parameters.length) = some (if kd = 0 then na else na - 1)) ∧ na ≤ mL ∧ (kd ≠ 0 → 1 ≤ na)) &&
    (match kd with
     | 0 => jv_in b (.static (jv_ym y).1)
     | 1 => jv_in b (.instanceMethod (jv_ym y).1) && jv_in c (.selects (jv_ym y).1.cls (jv_ym y).1 (jv_ym y).1)
     | _ => jv_in b (.instanceMethod (jv_ym y).1) && decide ((jv_ym y).1.name = "<init>" ∧ (jv_ym y).2.2 = none ∧ kd = 2))
  | _, _ => false
theorem jv_mg0 : ∀ k, k < 16 → jv_ckm (0 + k) = true := by decide +kernel
theorem jv_mg1 : ∀ k, k < 16 → jv_ckm (16 + k) = true := by decide +kernel
theorem jv_mg2 : ∀ k, k < 16 → jv_ckm (32 + k) = true := by decide +kernel
theorem jv_mg3 : ∀ k, k < 16 → jv_ckm (48 + k) = true := by decide +kernel
theorem jv_mg4 : ∀ k, k < 16 → jv_ckm (64 + k) = true := by decide +kernel
theorem jv_mg5 : ∀ k, k < 16 → jv_ckm (80 + k) = true := by decide +kernel
theorem jv_mg6 : ∀ k, k < 16 → jv_ckm (96 + k) = true := by decide +kernel
theorem jv_mg7 : ∀ k, k < 16 → jv_ckm (112 + k) = true := by decide +kernel
theorem jv_mg8 : ∀ k, k < 16 → jv_ckm (128 + k) = true := by decide +kernel
theorem jv_mg9 : ∀ k, k < 16 → jv_ckm (144 + k) = true := by decide +kernel
theorem jv_mg10 : ∀ k, k < 16 → jv_ckm (160 + k) = true := by decide +kernel
theorem jv_mg11 : ∀ k, k < 16 → jv_ckm (176 + k) = true := by decide +kernel
theorem jv_mg12 : ∀ k, k < 16 → jv_ckm (192 + k) = true := by decide +kernel
theorem jv_mg13 : ∀ k, k < 16 → jv_ckm (208 + k) = true := by decide +kernel
theorem jv_mg14 : ∀ k, k < 16 → jv_ckm (224 + k) = true := by decide +kernel
theorem jv_mg15 : ∀ k, k < 16 → jv_ckm (240 + k) = true := by decide +kernel
theorem jv_mg16 : ∀ k, k < 15 → jv_ckm (256 + k) = true := by decide +kernel
theorem jv_ckm_ok (y : Nat) (h : y < 271) : jv_ckm y = true := by
  by_cases h0 : y < 16
  · have := jv_mg0 (y - 0) (by omega); rwa [show 0 + (y - 0) = y by omega] at this
  by_cases h1 : y < 32
  · have := jv_mg1 (y - 16) (by omega); rwa [show 16 + (y - 16) = y by omega] at this
  by_cases h2 : y < 48
  · have := jv_mg2 (y - 32) (by omega); rwa [show 32 + (y - 32) = y by omega] at this
  by_cases h3 : y < 64
  · have := jv_mg3 (y - 48) (by omega); rwa [show 48 + (y - 48) = y by omega] at this
  by_cases h4 : y < 80
  · have := jv_mg4 (y - 64) (by omega); rwa [show 64 + (y - 64) = y by omega] at this
  by_cases h5 : y < 96
  · have := jv_mg5 (y - 80) (by omega); rwa [show 80 + (y - 80) = y by omega] at this
  by_cases h6 : y < 112
  · have := jv_mg6 (y - 96) (by omega); rwa [show 96 + (y - 96) = y by omega] at this
  by_cases h7 : y < 128
  · have := jv_mg7 (y - 112) (by omega); rwa [show 112 + (y - 112) = y by omega] at this
  by_cases h8 : y < 144
  · have := jv_mg8 (y - 128) (by omega); rwa [show 128 + (y - 128) = y by omega] at this
  by_cases h9 : y < 160
  · have := jv_mg9 (y - 144) (by omega); rwa [show 144 + (y - 144) = y by omega] at this
  by_cases h10 : y < 176
  · have := jv_mg10 (y - 160) (by omega); rwa [show 160 + (y - 160) = y by omega] at this
  by_cases h11 : y < 192
  · have := jv_mg11 (y - 176) (by omega); rwa [show 176 + (y - 176) = y by omega] at this
  by_cases h12 : y < 208
  · have := jv_mg12 (y - 192) (by omega); rwa [show 192 + (y - 192) = y by omega] at this
  by_cases h13 : y < 224
  · have := jv_mg13 (y - 208) (by omega); rwa [show 208 + (y - 208) = y by omega] at this
  by_cases h14 : y < 240
  · have := jv_mg14 (y - 224) (by omega); rwa [show 224 + (y - 224) = y by omega] at this
  by_cases h15 : y < 256
  · have := jv_mg15 (y - 240) (by omega); rwa [show 240 + (y - 240) = y by omega] at this
  by_cases h16 : y < 271
  · have := jv_mg16 (y - 256) (by omega); rwa [show 256 + (y - 256) = y by omega] at this
  omega
def jv_hfs : List (List (Nat × Nat)) := [[(11, 252), (15, 253), (19, 254)],
  [(11, 329), (16, 331), (20, 330)],
  [(12, 198), (21, 200), (25, 205), (29, 203), (36, 201), (39, 116), (49, 204), (129, 271), (132, 275), (143, 136), (148, 131), (154, 141), (156, 146), (161, 151), (163, 156), (165, 161), (167, 166), (170, 170), (172, 176)],
  [(9, 225), (15, 227), (18, 228), (27, 269), (38, 273), (44, 279), (57, 133), (66, 138), (73, 143), (82, 148), (91, 153), (94, 158), (97, 163), (104, 168), (109, 173)],
  [(9, 113), (13, 114)],
  [(11, 263), (18, 264), (22, 265), (29, 266), (33, 268), (37, 272), (43, 276), (46, 278), (49, 281), (52, 283), (55, 285), (58, 287), (61, 289), (83, 135), (90, 140), (97, 145), (108, 175), (119, 165), (122, 160), (130, 150), (137, 155), (159, 171)],
  [(9, 129), (15, 132), (18, 137), (21, 142), (24, 147), (27, 152), (30, 157), (33, 162), (36, 167), (39, 172)],
  [(10, 342), (16, 199), (20, 341), (24, 343), (31, 344), (35, 345), (41, 346), (45, 347), (49, 348), (56, 349), (60, 350), (74, 115), (85, 202), (95, 280), (122, 130), (125, 134), (128, 139), (131, 144), (134, 169), (137, 174), (144, 267), (172, 270), (175, 274), (225, 282), (228, 277), (234, 332), (247, 284), (250, 286), (253, 288), (256, 290), (265, 255), (268, 149), (271, 154), (274, 159), (277, 164), (342, 226), (343, 229)],
  [(7, 1054), (13, 1055), (16, 1056), (19, 1057), (22, 1058), (25, 1059), (29, 1061), (32, 1063), (36, 1069), (121, 1062), (124, 1064), (127, 1065), (130, 1067), (133, 1066), (148, 1068), (196, 1060), (289, 1070)],
  [],
  []]
def jv_hf (ow i : Nat) : Nat := ((jv_nth jv_hfs ow).bind (fun a => jv_as a i)).getD 0
def jv_hcs : List (List (Nat × Nat)) := [[(3, 251), (22, 635), (28, 631), (31, 636)],
  [(1, 326), (15, 328), (23, 617), (29, 613), (33, 620)],
  [(3, 106), (11, 109), (20, 125), (33, 415), (42, 419), (46, 423), (52, 435), (57, 445), (63, 431), (85, 541), (89, 483), (93, 491), (96, 496), (100, 487), (104, 513), (110, 525), (113, 533), (116, 537), (119, 411), (122, 403), (125, 427), (134, 500), (138, 504), (139, 509), (145, 529), (151, 552), (158, 556), (174, 560), (178, 564)],
  [(3, 224), (23, 1005), (32, 1015), (41, 1011), (47, 1021), (51, 1022), (62, 1027), (76, 1030), (85, 1035), (112, 1039), (118, 1009), (123, 1010)],
  [(1, 112), (17, 384)],
  [(3, 242), (17, 245), (28, 248), (40, 407), (64, 521), (68, 568), (72, 580), (75, 601), (79, 602), (86, 517), (93, 685), (100, 572), (104, 727), (111, 789), (115, 694), (125, 702), (133, 705), (140, 690), (144, 698), (147, 686), (150, 901), (153, 864), (156, 830), (162, 712), (166, 708), (169, 775), (172, 681), (175, 736), (178, 751), (181, 952), (185, 953), (188, 934), (191, 779), (194, 943), (197, 991), (200, 995)],
  [(3, 128)],
  [(1, 98), (9, 103), (23, 221), (30, 239), (40, 319), (55, 323), (64, 376), (70, 380), (77, 392), (81, 399), (88, 576), (92, 584), (98, 597), (102, 603), (105, 607), (108, 608), (112, 609), (115, 621), (118, 622), (140, 626), (150, 627), (154, 644), (157, 648), (160, 652), (164, 653), (168, 657), (178, 665), (181, 673), (184, 677), (188, 716), (191, 719), (195, 723), (198, 732), (201, 737), (204, 738), (207, 739), (210, 747), (213, 755), (216, 759), (219, 767), (222, 780), (231, 785), (235, 805), (238, 813), (241, 814), (244, 818), (259, 822), (262, 826), (280, 838), (284, 839), (287, 847), (290, 855), (293, 860), (296, 868), (299, 872), (302, 876), (305, 884), (308, 885), (311, 889), (314, 897), (317, 918), (320, 930), (323, 939), (326, 948), (329, 966), (332, 986), (335, 987), (338, 1000), (346, 771)],
  [(1, 1053), (42, 1207), (46, 1157), (50, 1234), (54, 1169), (58, 1204), (62, 1201), (65, 1275), (68, 1278), (72, 1281), (75, 1284), (78, 1272), (81, 1269), (85, 1287), (89, 1198), (93, 1266), (97, 1166), (100, 1310), (104, 1307), (108, 1324), (112, 1263), (115, 1333), (118, 1330), (136, 1128), (139, 1132), (142, 1136), (145, 1140), (152, 1124), (155, 1149), (159, 1145), (162, 1153), (165, 1175), (168, 1178), (171, 1172), (174, 1181), (178, 1185), (183, 1191), (193, 1162), (199, 1214), (202, 1218), (205, 1222), (208, 1226), (212, 1238), (216, 1242), (219, 1249), (222, 1256), (225, 1260), (228, 1290), (231, 1297), (234, 1304), (237, 1313), (240, 1320), (243, 1327), (246, 1344), (250, 1340), (253, 1378), (256, 1364), (259, 1367), (262, 1371), (265, 1374), (268, 1386), (271, 1394), (274, 1405), (277, 1413), (280, 1409), (283, 1421), (286, 1425), (292, 1493), (295, 1497), (298, 1489), (301, 1505), (304, 1525), (307, 1517), (310, 1521), (313, 1533), (317, 1537), (320, 1541), (323, 1529), (326, 1513)],
  [],
  [(9, 95), (12, 1050), (13, 372), (17, 1108), (18, 388), (22, 1112), (23, 395), (27, 1120), (28, 589), (31, 1116), (32, 593), (35, 1210), (36, 640), (40, 1230), (41, 661), (44, 1245), (45, 669), (48, 1252), (49, 728), (53, 1293), (54, 743), (57, 1300), (58, 763), (61, 1316), (62, 781), (65, 1336), (66, 793), (69, 1348), (70, 797), (73, 1352), (74, 801), (77, 1356), (78, 809), (81, 1360), (82, 834), (85, 1382), (86, 843), (89, 1390), (90, 851), (93, 1397), (94, 856), (97, 1401), (98, 880), (101, 1417), (102, 893), (105, 1429), (106, 902), (109, 1433), (110, 906), (113, 1437), (114, 910), (117, 1441), (118, 914), (121, 1445), (122, 922), (125, 1449), (126, 926), (129, 1453), (130, 935), (133, 1457), (134, 944), (137, 1461), (138, 954), (141, 1465), (142, 958), (145, 1469), (146, 962), (149, 1473), (150, 970), (154, 1477), (155, 974), (159, 1481), (160, 978), (163, 1485), (164, 982), (167, 1501), (168, 996), (171, 1509), (172, 1044), (175, 1545)]]
def jv_hc (ow i : Nat) : Nat := ((jv_nth jv_hcs ow).bind (fun a => jv_as a i)).getD 0
def jv_hns : List (List (Nat × Nat)) := [[],
  [(9, 327)],
  [(9, 107), (18, 123)],
  [],
  [],
  [(9, 243), (26, 246)],
  [],
  [(7, 101), (21, 219), (28, 237), (38, 318), (53, 321)],
  [],
  [],
  [(7, 93), (10, 1048)]]
def jv_hn (ow i : Nat) : Nat := ((jv_nth jv_hns ow).bind (fun a => jv_as a i)).getD 0
def jv_hls : List (List (Nat × Nat)) := [[],
  [],
  [(61, 426), (67, 495), (69, 508), (71, 545), (73, 546), (75, 547), (77, 548), (79, 549), (81, 550), (83, 551)],
  [(21, 1004), (36, 1020), (55, 1026), (69, 1028), (71, 1029), (80, 1034), (89, 1040), (100, 1041), (102, 1042), (107, 1043), (117, 1019)],
  [],
  [],
  [],
  [],
  [(177, 1184), (181, 1189), (182, 1190), (187, 1195), (188, 1196), (189, 1197), (190, 1144), (191, 1160), (192, 1161)],
  [],
  []]
def jv_hl (ow i : Nat) : Nat := ((jv_nth jv_hls ow).bind (fun a => jv_as a i)).getD 0
/-- the classes -/
theorem jv_cls_ok : ∀ c, c < 9 → vwCl[c]? = some (jv_own c, jv_fT c, jv_fn c) := by
  intro c h
  match c, h with
  | 0, _ => rfl
  | 1, _ => rfl
  | 2, _ => rfl
  | 3, _ => rfl
  | 4, _ => rfl
  | 5, _ => rfl
  | 6, _ => rfl
  | 7, _ => rfl
  | 8, _ => rfl
  | c + 9, h => omega
/-- links to private members of nest mates: no words of the tables, carried beside them -/
def jv_nests : List Cond := [.methodLinkNest (jv_own 2) 20 (jv_ym 101).1 "SeatSwap", .methodLinkNest (jv_own 5) 17 (jv_ym 101).1 "SeatSwap", .methodLinkNest (jv_own 5) 79 (jv_ym 147).1 "SeatSwap", .methodLinkNest (jv_own 7) 23 (jv_ym 33).1 "SeatSwap", .methodLinkNest (jv_own 7) 40 (jv_ym 101).1 "SeatSwap"]
theorem jv_nests_in : ∀ w ∈ jv_nests, w ∈ lw_tbl := by
  intro w hw
  have h : jv_nests = ([125, 245, 602, 221, 319] : List Nat).filterMap (fun i => lw_tbl[i]?) := by decide +kernel
  rw [h] at hw
  obtain ⟨i, -, hi⟩ := List.mem_filterMap.mp hw
  exact List.mem_of_getElem? hi
def jv_ckf1 (ow : Nat) (q : Nat × Nat × Nat) : Bool := decide (q.2.1 < 9 ∧ q.2.2 < jv_fn q.2.1) && jv_in (jv_hf ow q.1) (.fieldLink (jv_own ow) q.1 (jv_fT q.2.1 q.2.2).1 (jv_fT q.2.1 q.2.2).2.1 (jv_fT q.2.1 q.2.2).2.2.1)
def jv_ckc1 (ow : Nat) (q : Nat × Nat × Nat × Nat) : Bool :=
  if q.2.1 = 900 then jv_in (jv_hc ow q.1) (.methodLink (jv_own ow) q.1 Lib.objectInit)
  else if q.2.1 = 901 then jv_in (jv_hc ow q.1) (.methodLink (jv_own ow) q.1 yJ0_length_8abf5)
  else if q.2.1 = 902 then jv_in (jv_hc ow q.1) (.methodLink (jv_own ow) q.1 yJ0_charAt_5068e)
  else match jv_inf q.2.1 with
  | some (_, _, na, _) => decide (na = q.2.2.1 ∧ q.2.1 < 271) && (if q.2.2.2 = 0 then jv_in (jv_hc ow q.1) (.methodLink (jv_own ow) q.1 (jv_ym q.2.1).1) else decide (Cond.methodLinkNest (jv_own ow) q.1 (jv_ym q.2.1).1 "SeatSwap" ∈ jv_nests))
  | none => false
def jv_ckn1 (ow : Nat) (q : Nat × Nat) : Bool := decide (q.2 < 9) && jv_in (jv_hn ow q.1) (.classLink (jv_own ow) q.1 (jv_own q.2))
def jv_ckl1 (ow : Nat) (q : Nat × Value) : Bool := match q.2 with
  | .int v => jv_in (jv_hl ow q.1) (.constant (jv_own ow) q.1 v)
  | .ref a => match jv_tix a with
    | some i => match jv_str[i]? with
      | some (own, idx, _) => decide (own = jv_own ow ∧ idx = q.1)
      | none => false
    | none => false
  | _ => false
theorem jv_kf0 : (jv_fld0).all (jv_ckf1 0) = true := by decide +kernel
theorem jv_kf1 : (jv_fld1).all (jv_ckf1 1) = true := by decide +kernel
theorem jv_kf2 : (jv_fld2).all (jv_ckf1 2) = true := by decide +kernel
theorem jv_kf3 : (jv_fld3).all (jv_ckf1 3) = true := by decide +kernel
theorem jv_kf4 : (jv_fld4).all (jv_ckf1 4) = true := by decide +kernel
theorem jv_kf5 : (jv_fld5).all (jv_ckf1 5) = true := by decide +kernel
theorem jv_kf6 : (jv_fld6).all (jv_ckf1 6) = true := by decide +kernel
theorem jv_kf7 : (jv_fld7).all (jv_ckf1 7) = true := by decide +kernel
theorem jv_kf8 : (jv_fld8).all (jv_ckf1 8) = true := by decide +kernel
theorem jv_kf9 : (jv_fld9).all (jv_ckf1 9) = true := by decide +kernel
theorem jv_kf10 : (jv_fld10).all (jv_ckf1 10) = true := by decide +kernel
theorem jv_ckf_ok {ow i : Nat} {v : Nat × Nat} (h : jv_fld ow i = some v) : jv_ckf1 ow (i, v) = true := by
  unfold jv_fld at h
  split at h
  · cases h
  · rename_i a ha
    have hm := jv_as_mem a h
    match ow, ha with
    | 0, ha => cases ha; exact List.all_eq_true.mp jv_kf0 _ hm
    | 1, ha => cases ha; exact List.all_eq_true.mp jv_kf1 _ hm
    | 2, ha => cases ha; exact List.all_eq_true.mp jv_kf2 _ hm
    | 3, ha => cases ha; exact List.all_eq_true.mp jv_kf3 _ hm
    | 4, ha => cases ha; exact List.all_eq_true.mp jv_kf4 _ hm
    | 5, ha => cases ha; exact List.all_eq_true.mp jv_kf5 _ hm
    | 6, ha => cases ha; exact List.all_eq_true.mp jv_kf6 _ hm
    | 7, ha => cases ha; exact List.all_eq_true.mp jv_kf7 _ hm
    | 8, ha => cases ha; exact List.all_eq_true.mp jv_kf8 _ hm
    | 9, ha => cases ha; exact List.all_eq_true.mp jv_kf9 _ hm
    | 10, ha => cases ha; exact List.all_eq_true.mp jv_kf10 _ hm
    | ow + 11, ha => rw [show jv_nth jv_flds (ow + 11) = jv_nth ([] : List (List (Nat × Nat × Nat))) ow from rfl, jv_nil] at ha; cases ha
theorem jv_kc0 : (jv_cal0).all (jv_ckc1 0) = true := by decide +kernel
theorem jv_kc1 : (jv_cal1).all (jv_ckc1 1) = true := by decide +kernel
theorem jv_kc2 : (jv_cal2).all (jv_ckc1 2) = true := by decide +kernel
theorem jv_kc3 : (jv_cal3).all (jv_ckc1 3) = true := by decide +kernel
theorem jv_kc4 : (jv_cal4).all (jv_ckc1 4) = true := by decide +kernel
theorem jv_kc5 : (jv_cal5).all (jv_ckc1 5) = true := by decide +kernel
theorem jv_kc6 : (jv_cal6).all (jv_ckc1 6) = true := by decide +kernel
theorem jv_kc7 : (jv_cal7).all (jv_ckc1 7) = true := by decide +kernel
theorem jv_kc8 : (jv_cal8).all (jv_ckc1 8) = true := by decide +kernel
theorem jv_kc9 : (jv_cal9).all (jv_ckc1 9) = true := by decide +kernel
theorem jv_kc10 : (jv_cal10).all (jv_ckc1 10) = true := by decide +kernel
theorem jv_ckc_ok {ow i : Nat} {v : Nat × Nat × Nat} (h : jv_cal ow i = some v) : jv_ckc1 ow (i, v) = true := by
  unfold jv_cal at h
  split at h
  · cases h
  · rename_i a ha
    have hm := jv_as_mem a h
    match ow, ha with
    | 0, ha => cases ha; exact List.all_eq_true.mp jv_kc0 _ hm
    | 1, ha => cases ha; exact List.all_eq_true.mp jv_kc1 _ hm
    | 2, ha => cases ha; exact List.all_eq_true.mp jv_kc2 _ hm
    | 3, ha => cases ha; exact List.all_eq_true.mp jv_kc3 _ hm
    | 4, ha => cases ha; exact List.all_eq_true.mp jv_kc4 _ hm
    | 5, ha => cases ha; exact List.all_eq_true.mp jv_kc5 _ hm
    | 6, ha => cases ha; exact List.all_eq_true.mp jv_kc6 _ hm
    | 7, ha => cases ha; exact List.all_eq_true.mp jv_kc7 _ hm
    | 8, ha => cases ha; exact List.all_eq_true.mp jv_kc8 _ hm
    | 9, ha => cases ha; exact List.all_eq_true.mp jv_kc9 _ hm
    | 10, ha => cases ha; exact List.all_eq_true.mp jv_kc10 _ hm
    | ow + 11, ha => rw [show jv_nth jv_cals (ow + 11) = jv_nth ([] : List (List (Nat × Nat × Nat × Nat))) ow from rfl, jv_nil] at ha; cases ha
theorem jv_kn0 : (jv_new0).all (jv_ckn1 0) = true := by decide +kernel
theorem jv_kn1 : (jv_new1).all (jv_ckn1 1) = true := by decide +kernel
theorem jv_kn2 : (jv_new2).all (jv_ckn1 2) = true := by decide +kernel
theorem jv_kn3 : (jv_new3).all (jv_ckn1 3) = true := by decide +kernel
theorem jv_kn4 : (jv_new4).all (jv_ckn1 4) = true := by decide +kernel
theorem jv_kn5 : (jv_new5).all (jv_ckn1 5) = true := by decide +kernel
theorem jv_kn6 : (jv_new6).all (jv_ckn1 6) = true := by decide +kernel
theorem jv_kn7 : (jv_new7).all (jv_ckn1 7) = true := by decide +kernel
theorem jv_kn8 : (jv_new8).all (jv_ckn1 8) = true := by decide +kernel
theorem jv_kn9 : (jv_new9).all (jv_ckn1 9) = true := by decide +kernel
theorem jv_kn10 : (jv_new10).all (jv_ckn1 10) = true := by decide +kernel
theorem jv_ckn_ok {ow i : Nat} {v : Nat} (h : jv_new ow i = some v) : jv_ckn1 ow (i, v) = true := by
  unfold jv_new at h
  split at h
  · cases h
  · rename_i a ha
    have hm := jv_as_mem a h
    match ow, ha with
    | 0, ha => cases ha; exact List.all_eq_true.mp jv_kn0 _ hm
    | 1, ha => cases ha; exact List.all_eq_true.mp jv_kn1 _ hm
    | 2, ha => cases ha; exact List.all_eq_true.mp jv_kn2 _ hm
    | 3, ha => cases ha; exact List.all_eq_true.mp jv_kn3 _ hm
    | 4, ha => cases ha; exact List.all_eq_true.mp jv_kn4 _ hm
    | 5, ha => cases ha; exact List.all_eq_true.mp jv_kn5 _ hm
    | 6, ha => cases ha; exact List.all_eq_true.mp jv_kn6 _ hm
    | 7, ha => cases ha; exact List.all_eq_true.mp jv_kn7 _ hm
    | 8, ha => cases ha; exact List.all_eq_true.mp jv_kn8 _ hm
    | 9, ha => cases ha; exact List.all_eq_true.mp jv_kn9 _ hm
    | 10, ha => cases ha; exact List.all_eq_true.mp jv_kn10 _ hm
    | ow + 11, ha => rw [show jv_nth jv_news (ow + 11) = jv_nth ([] : List (List (Nat × Nat))) ow from rfl, jv_nil] at ha; cases ha
theorem jv_kl0 : (jv_ldc0).all (jv_ckl1 0) = true := by decide +kernel
theorem jv_kl1 : (jv_ldc1).all (jv_ckl1 1) = true := by decide +kernel
theorem jv_kl2 : (jv_ldc2).all (jv_ckl1 2) = true := by decide +kernel
theorem jv_kl3 : (jv_ldc3).all (jv_ckl1 3) = true := by decide +kernel
theorem jv_kl4 : (jv_ldc4).all (jv_ckl1 4) = true := by decide +kernel
theorem jv_kl5 : (jv_ldc5).all (jv_ckl1 5) = true := by decide +kernel
theorem jv_kl6 : (jv_ldc6).all (jv_ckl1 6) = true := by decide +kernel
theorem jv_kl7 : (jv_ldc7).all (jv_ckl1 7) = true := by decide +kernel
theorem jv_kl8 : (jv_ldc8).all (jv_ckl1 8) = true := by decide +kernel
theorem jv_kl9 : (jv_ldc9).all (jv_ckl1 9) = true := by decide +kernel
theorem jv_kl10 : (jv_ldc10).all (jv_ckl1 10) = true := by decide +kernel
theorem jv_ckl_ok {ow i : Nat} {v : Value} (h : jv_ldc ow i = some v) : jv_ckl1 ow (i, v) = true := by
  unfold jv_ldc at h
  split at h
  · cases h
  · rename_i a ha
    have hm := jv_as_mem a h
    match ow, ha with
    | 0, ha => cases ha; exact List.all_eq_true.mp jv_kl0 _ hm
    | 1, ha => cases ha; exact List.all_eq_true.mp jv_kl1 _ hm
    | 2, ha => cases ha; exact List.all_eq_true.mp jv_kl2 _ hm
    | 3, ha => cases ha; exact List.all_eq_true.mp jv_kl3 _ hm
    | 4, ha => cases ha; exact List.all_eq_true.mp jv_kl4 _ hm
    | 5, ha => cases ha; exact List.all_eq_true.mp jv_kl5 _ hm
    | 6, ha => cases ha; exact List.all_eq_true.mp jv_kl6 _ hm
    | 7, ha => cases ha; exact List.all_eq_true.mp jv_kl7 _ hm
    | 8, ha => cases ha; exact List.all_eq_true.mp jv_kl8 _ hm
    | 9, ha => cases ha; exact List.all_eq_true.mp jv_kl9 _ hm
    | 10, ha => cases ha; exact List.all_eq_true.mp jv_kl10 _ hm
    | ow + 11, ha => rw [show jv_nth jv_ldcs (ow + 11) = jv_nth ([] : List (List (Nat × Value))) ow from rfl, jv_nil] at ha; cases ha
def jv_hl100 : List Nat := [256, 258, 260]
theorem jv_lay0 : (List.range (jv_fn 0)).all (fun k => jv_in (jv_hl100.getD k 0) (u_lay (jv_own 0) (jv_fT 0) k)) = true := by decide +kernel
def jv_hl101 : List Nat := [333, 335, 337]
theorem jv_lay1 : (List.range (jv_fn 1)).all (fun k => jv_in (jv_hl101.getD k 0) (u_lay (jv_own 1) (jv_fT 1) k)) = true := by decide +kernel
def jv_hl102 : List Nat := [206, 208, 210, 212, 214, 216]
theorem jv_lay2 : (List.range (jv_fn 2)).all (fun k => jv_in (jv_hl102.getD k 0) (u_lay (jv_own 2) (jv_fT 2) k)) = true := by decide +kernel
def jv_hl103 : List Nat := [230, 232, 234]
theorem jv_lay3 : (List.range (jv_fn 3)).all (fun k => jv_in (jv_hl103.getD k 0) (u_lay (jv_own 3) (jv_fT 3) k)) = true := by decide +kernel
def jv_hl104 : List Nat := [117, 119]
theorem jv_lay4 : (List.range (jv_fn 4)).all (fun k => jv_in (jv_hl104.getD k 0) (u_lay (jv_own 4) (jv_fT 4) k)) = true := by decide +kernel
def jv_hl105 : List Nat := [291, 293, 295, 297, 299, 301, 303, 305, 307, 309, 311, 313, 315]
theorem jv_lay5 : (List.range (jv_fn 5)).all (fun k => jv_in (jv_hl105.getD k 0) (u_lay (jv_own 5) (jv_fT 5) k)) = true := by decide +kernel
def jv_hl106 : List Nat := [177, 179, 181, 183, 185, 187, 189, 191, 193, 195]
theorem jv_lay6 : (List.range (jv_fn 6)).all (fun k => jv_in (jv_hl106.getD k 0) (u_lay (jv_own 6) (jv_fT 6) k)) = true := by decide +kernel
def jv_hl107 : List Nat := [351, 353, 355, 357, 359, 361, 363, 365, 367, 369]
theorem jv_lay7 : (List.range (jv_fn 7)).all (fun k => jv_in (jv_hl107.getD k 0) (u_lay (jv_own 7) (jv_fT 7) k)) = true := by decide +kernel
def jv_hl108 : List Nat := [1071, 1073, 1075, 1077, 1079, 1081, 1083, 1085, 1087, 1089, 1091, 1093, 1095, 1097, 1099, 1101, 1103, 1105]
theorem jv_lay8 : (List.range (jv_fn 8)).all (fun k => jv_in (jv_hl108.getD k 0) (u_lay (jv_own 8) (jv_fT 8) k)) = true := by decide +kernel
theorem jv_ws_in (c : Nat) (h : c < 9) : ∀ w ∈ u_ws (jv_own c) (jv_fT c) (jv_fn c), w ∈ jv_T := by
  intro w hw
  obtain ⟨k, hk, rfl⟩ := List.mem_map.mp hw
  match c, h with
  | 0, _ => exact jv_in_ok (List.all_eq_true.mp jv_lay0 k hk)
  | 1, _ => exact jv_in_ok (List.all_eq_true.mp jv_lay1 k hk)
  | 2, _ => exact jv_in_ok (List.all_eq_true.mp jv_lay2 k hk)
  | 3, _ => exact jv_in_ok (List.all_eq_true.mp jv_lay3 k hk)
  | 4, _ => exact jv_in_ok (List.all_eq_true.mp jv_lay4 k hk)
  | 5, _ => exact jv_in_ok (List.all_eq_true.mp jv_lay5 k hk)
  | 6, _ => exact jv_in_ok (List.all_eq_true.mp jv_lay6 k hk)
  | 7, _ => exact jv_in_ok (List.all_eq_true.mp jv_lay7 k hk)
  | 8, _ => exact jv_in_ok (List.all_eq_true.mp jv_lay8 k hk)
  | c + 9, h => omega
theorem jv_ty_ok (c : Nat) (h : c < 9) : ∀ k, k < jv_fn c → parseFieldDescriptor (jv_fT c k).2.2.1 = some (jv_fty c k) := by
  match c, h with
  | 0, _ => exact tyX0_ok
  | 1, _ => exact tyX1_ok
  | 2, _ => exact tyX2_ok
  | 3, _ => exact tyX3_ok
  | 4, _ => exact tyX4_ok
  | 5, _ => exact tyX5_ok
  | 6, _ => exact tyX6_ok
  | 7, _ => exact tyX7_ok
  | 8, _ => exact tyX8_ok
  | c + 9, h => omega
theorem jv_nm_ok (c : Nat) (h : c < 9) : ∀ a, a < jv_fn c → ∀ b, b < jv_fn c → a ≠ b → (jv_fT c a).2.1 ≠ (jv_fT c b).2.1 := by
  match c, h with
  | 0, _ => exact nmX0
  | 1, _ => exact nmX1
  | 2, _ => exact nmX2
  | 3, _ => exact nmX3
  | 4, _ => exact nmX4
  | 5, _ => exact nmX5
  | 6, _ => exact nmX6
  | 7, _ => exact nmX7
  | 8, _ => exact nmX8
  | c + 9, h => omega
theorem jv_dcl_ok : ∀ c, c < 9 → ∀ k, k < jv_fn c → (jv_fT c k).1 = jv_own c := by decide +kernel
theorem jv_inst_ok : ∀ c, c < 9 → jv_in (([247, 322, 102, 220, 108, 238, 124, 94, 1049] : List Nat).getD c 0) (.instantiable (jv_own c) (jv_fn c)) = true ∧ jv_in (([85, 86, 80, 83, 81, 84, 82, 79, 87] : List Nat).getD c 0) (.initialized (jv_own c)) = true := by decide +kernel
theorem jv_arrI : jv_in 122 (.arrayClass .int) = true := by decide +kernel
theorem jv_arrZ : jv_in 340 (.arrayClass .boolean) = true := by decide +kernel
theorem jv_arrT6 : Cond.arrayOver (.object "SeatSwap$Traveller") ∈ lw_tbl := List.mem_of_getElem? (i := 244) (by decide +kernel)
theorem jv_arrT5 : Cond.arrayOver (.object "SeatSwap$Train") ∈ lw_tbl := List.mem_of_getElem? (i := 320) (by decide +kernel)
theorem jv_obI : jv_in 99 (.instanceMethod Lib.objectInit) = true := by decide +kernel
theorem jv_obC : jv_in 100 (.code Lib.objectInit ⟨#[0xb1]⟩ 1 none) = true := by decide +kernel
end
section
/-! THE J MACHINE: a pure reading of the bytecode that the claim's classes use. Cells are numbered by places (a reference is a place, not an address). -/
/-- a cell: an array of whole numbers (kind, length, contents), an array of references, an object (class, fields) -/
abbrev jv_E : Type := (Nat × Nat × (Nat → Int32)) ⊕ ((Nat × Nat × (Nat → Option Nat)) ⊕ (Nat × List Value))
/-- the cells, how many there are, how many slots they have -/
abbrev jv_H : Type := (Nat → jv_E) × Nat × Nat
def jv_up {α : Type} (f : Nat → α) (k : Nat) (v : α) : Nat → α := fun j => if j = k then v else f j
def jv_two (f : Int32 → Int32 → Int32) (st : List Value) : Option (List Value) := match st with
  | .int y :: .int x :: r => some (.int (f x y) :: r)
  | _ => none
/-- what works on the stack alone -/
def jv_pure (i : Instr) (st : List Value) : Option (List Value) := match i with
  | .iconst n => some (.int (Int32.ofInt n) :: st)
  | .bipush n => some (.int (Int8.ofInt n).toInt32 :: st)
  | .sipush n => some (.int (Int16.ofInt n).toInt32 :: st)
  | .iadd => jv_two (fun x y => x + y) st
  | .isub => jv_two (fun x y => x - y) st
  | .imul => jv_two (fun x y => x * y) st
  | .iand => jv_two (fun x y => x &&& y) st
  | .ior => jv_two (fun x y => x ||| y) st
  | .ixor => jv_two (fun x y => x ^^^ y) st
  | .ishl => jv_two (fun x y => x <<< (y &&& 31)) st
  | .ishr => jv_two (fun x y => x >>> (y &&& 31)) st
  | .idiv => match st with
    | .int y :: .int x :: r => if y = 0 then none else some (.int (x / y) :: r)
    | _ => none
  | .irem => match st with
    | .int y :: .int x :: r => if y = 0 then none else some (.int (x - x / y * y) :: r)
    | _ => none
  | .ineg => match st with
    | .int x :: r => some (.int (-x) :: r)
    | _ => none
  | .dup => match st with
    | .int x :: r => some (.int x :: .int x :: r)
    | .ref a :: r => some (.ref a :: .ref a :: r)
    | _ => none
  | .dup2 => match st with
    | .int x :: .ref a :: r => some (.int x :: .ref a :: .int x :: .ref a :: r)
    | _ => none
  | .pop => match st with
    | .int _ :: r => some r
    | .ref _ :: r => some r
    | .float _ :: r => some r
    | _ => none
  | .pop2 => match st with
    | .double _ :: r => some r
    | _ => none
  | .i2f => match st with
    | .int x :: r => some (.float (FP.i2f x) :: r)
    | _ => none
  | .i2d => match st with
    | .int x :: r => some (.double (FP.i2d x) :: r)
    | _ => none
  | .f2d => match st with
    | .float x :: r => if (FP.f2d x) &&& 0x7fffffffffffffff ≤ 0x7ff0000000000000 then some (.double (FP.f2d x) :: r) else none
    | _ => none
  | .fdiv => match st with
    | .float y :: .float x :: r => if (FP.fdiv x y) &&& 0x7fffffff ≤ 0x7f800000 then some (.float (FP.fdiv x y) :: r) else none
    | _ => none
  | .ddiv => match st with
    | .double y :: .double x :: r => if (FP.ddiv x y) &&& 0x7fffffffffffffff ≤ 0x7ff0000000000000 then some (.double (FP.ddiv x y) :: r) else none
    | _ => none
  | .dcmp op => match st with
    | .double y :: .double x :: r => some (.int (Op.cmpValue (FP.dcmp x y) op) :: r)
    | _ => none
  | .fconst k => if k = 0 then some (.float FP.fconst0 :: st) else none
  | .dconst k => if k = 0 then some (.double FP.dconst0 :: st) else none
  | _ => none
def jv_cc (c : ClassFile.Cond) (x y : Int32) : Bool := match c with
  | .eq => decide (x = y)
  | .ne => decide (¬ x = y)
  | .lt => decide (x < y)
  | .ge => decide (x ≥ y)
  | .gt => decide (x > y)
  | .le => decide (x ≤ y)
def jv_jmp (pc : Nat) (off : Int) (st : List Value) : Option (Nat × List Value) := if 0 ≤ (pc : Int) + off then some (((pc : Int) + off).toNat, st) else none
/-- jumps: where to, with what on the stack -/
def jv_br (i : Instr) (pc : Nat) (st : List Value) : Option (Nat × List Value) := match i with
  | .goto off => jv_jmp pc off st
  | .ifCond c off => match st with
    | .int x :: r => match jv_jmp pc off r with
      | some t => if jv_cc c x 0 = true then some t else some (pc + 3, r)
      | none => none
    | _ => none
  | .if_icmp c off => match st with
    | .int y :: .int x :: r => match jv_jmp pc off r with
      | some t => if jv_cc c x y = true then some t else some (pc + 3, r)
      | none => none
    | _ => none
  | .tableswitch d lo hi offs => match st with
    | .int x :: r => if x.toInt < lo ∨ hi < x.toInt then jv_jmp pc d r else match offs[(x.toInt - lo).toNat]? with
      | some off => jv_jmp pc off r
      | none => none
    | _ => none
  | .lookupswitch d ps => match st with
    | .int x :: r => if (ps.toList.zip (ps.toList.drop 1)).all (fun (a, next) => a.1 < next.1) = true then jv_jmp pc (Op.lookupswitch.offset ps.toList d x.toInt) r else none
    | _ => none
  | _ => none
def jv_cat2 (L : List (Option Value)) (i : Nat) : Bool := match L[i]? with
  | some (some (.double _)) => true
  | some (some (.long _)) => true
  | _ => false
/-- a store of one word -/
def jv_set1 (L : List (Option Value)) (i : Nat) (v : Value) : Option (List (Option Value)) := if i < L.length then (match i with
  | 0 => some (L.set 0 (some v))
  | j + 1 => if jv_cat2 L j = true then none else some (L.set (j + 1) (some v))) else none
def jv_set2 (L : List (Option Value)) (i : Nat) (v : Value) : Option (List (Option Value)) := if i + 1 < L.length then (match i with
  | 0 => some ((L.set 0 (some v)).set 1 none)
  | j + 1 => if jv_cat2 L j = true then none else some ((L.set (j + 1) (some v)).set (j + 2) none)) else none
def jv_ldI (L : List (Option Value)) (i : Nat) (st : List Value) : Option (List Value) := match L[i]? with
  | some (some (.int x)) => some (.int x :: st)
  | _ => none
def jv_ldA (L : List (Option Value)) (i : Nat) (st : List Value) : Option (List Value) := match L[i]? with
  | some (some (.ref x)) => some (.ref x :: st)
  | _ => none
def jv_ldD (L : List (Option Value)) (i : Nat) (st : List Value) : Option (List Value) := match L[i]? with
  | some (some (.double x)) => some (.double x :: st)
  | _ => none
/-- loads -/
def jv_ld (i : Instr) (L : List (Option Value)) (st : List Value) : Option (List Value) := match i with
  | .iload_n k => jv_ldI L k.val st
  | .iload k => jv_ldI L k st
  | .aload_n k => jv_ldA L k.val st
  | .aload k => jv_ldA L k st
  | .dload_n k => jv_ldD L k.val st
  | .dload k => jv_ldD L k st
  | _ => none
def jv_stI (L : List (Option Value)) (i : Nat) (st : List Value) : Option (List (Option Value) × List Value) := match st with
  | .int x :: r => match jv_set1 L i (.int x) with
    | some L' => some (L', r)
    | none => none
  | _ => none
def jv_stA (L : List (Option Value)) (i : Nat) (st : List Value) : Option (List (Option Value) × List Value) := match st with
  | .ref x :: r => match jv_set1 L i (.ref x) with
    | some L' => some (L', r)
    | none => none
  | _ => none
def jv_stD (L : List (Option Value)) (i : Nat) (st : List Value) : Option (List (Option Value) × List Value) := match st with
  | .double x :: r => match jv_set2 L i (.double x) with
    | some L' => some (L', r)
    | none => none
  | _ => none
/-- stores -/
def jv_sto (i : Instr) (L : List (Option Value)) (st : List Value) : Option (List (Option Value) × List Value) := match i with
  | .istore_n k => jv_stI L k.val st
  | .istore k => jv_stI L k st
  | .astore_n k => jv_stA L k.val st
  | .astore k => jv_stA L k st
  | .dstore_n k => jv_stD L k.val st
  | .dstore k => jv_stD L k st
  | .iinc k n => match L[k]? with
    | some (some (.int x)) => match jv_set1 L k (.int (x + Int32.ofInt n)) with
      | some L' => some (L', st)
      | none => none
    | _ => none
  | _ => none
def jv_arrT (k : Nat) : FieldType := match k with
  | 0 => .int
  | 1 => .boolean
  | 2 => .object "SeatSwap$Traveller"
  | _ => .object "SeatSwap$Train"
def jv_put (h : jv_H) (a : Nat) (x : jv_E) : jv_H := (jv_up h.1 a x, h.2)
def jv_add (h : jv_H) (x : jv_E) (n : Nat) : jv_H := (jv_up h.1 h.2.1 x, h.2.1 + 1, h.2.2 + n)
def jv_get (ow : Nat) (idx : Nat) (st : List Value) (h : jv_H) : Option (List Value) := match st with
  | .ref a :: r => match jv_fld ow idx with
    | some (c, k) => if a < h.2.1 then match h.1 a with
      | .inr (.inr (d, fs)) => if d = c then (match fs[k]? with
        | some v => some (v :: r)
        | none => none) else none
      | _ => none else none
    | none => none
  | _ => none
def jv_set (ow : Nat) (ini : Bool) (idx : Nat) (st : List Value) (h : jv_H) : Option (List Value × jv_H) := match st with
  | v :: .ref a :: r => match jv_fld ow idx with
    | some (c, k) => if a < h.2.1 ∧ narrow (jv_fty c k) v = v ∧ fits (jv_fty c k) v = true ∧ ((jv_fT c k).2.2.2 = false ∨ (ini = true ∧ c = ow)) then match h.1 a with
      | .inr (.inr (d, fs)) => if d = c ∧ k < fs.length then some (r, jv_put h a (.inr (.inr (d, fs.set k v)))) else none
      | _ => none else none
    | none => none
  | _ => none
/-- what reads and writes cells -/
def jv_heap (ow : Nat) (ini : Bool) (i : Instr) (st : List Value) (h : jv_H) : Option (List Value × jv_H) := match i with
  | .getfield idx => match jv_get ow idx st h with
    | some st' => some (st', h)
    | none => none
  | .putfield idx => jv_set ow ini idx st h
  | .iaload => match st with
    | .int i :: .ref a :: r => if a < h.2.1 ∨ (a = 1000000 ∧ ow = 10) then match h.1 a with
      | .inl (ty, n, f) => if (ty = 0 ∧ a < h.2.1 ∨ ty = 9 ∧ a = 1000000) ∧ ¬ (i < 0 ∨ n ≤ i.toNatClampNeg) then some (.int (f i.toNatClampNeg) :: r, h) else none
      | _ => none else none
    | _ => none
  | .baload => match st with
    | .int i :: .ref a :: r => if a < h.2.1 then match h.1 a with
      | .inl (ty, n, f) => if ty = 1 ∧ ¬ (i < 0 ∨ n ≤ i.toNatClampNeg) then some (.int (f i.toNatClampNeg) :: r, h) else none
      | _ => none else none
    | _ => none
  | .aaload => match st with
    | .int i :: .ref a :: r => if a < h.2.1 then match h.1 a with
      | .inr (.inl (ty, n, f)) => if (ty = 2 ∨ ty = 3) ∧ ¬ (i < 0 ∨ n ≤ i.toNatClampNeg) then (match f i.toNatClampNeg with
        | some b => some (.ref b :: r, h)
        | none => none) else none
      | _ => none else none
    | _ => none
  | .iastore => match st with
    | .int x :: .int i :: .ref a :: r => if a < h.2.1 then match h.1 a with
      | .inl (ty, n, f) => if ty = 0 ∧ ¬ (i < 0 ∨ n ≤ i.toNatClampNeg) then some (r, jv_put h a (.inl (ty, n, upd f i.toNatClampNeg x))) else none
      | _ => none else none
    | _ => none
  | .bastore => match st with
    | .int x :: .int i :: .ref a :: r => if a < h.2.1 ∧ vp_nar .boolean x = x then match h.1 a with
      | .inl (ty, n, f) => if ty = 1 ∧ ¬ (i < 0 ∨ n ≤ i.toNatClampNeg) then some (r, jv_put h a (.inl (ty, n, upd f i.toNatClampNeg x))) else none
      | _ => none else none
    | _ => none
  | .aastore => match st with
    | .ref b :: .int i :: .ref a :: r => if a < h.2.1 ∧ b < h.2.1 then match h.1 a, h.1 b with
      | .inr (.inl (ty, n, f)), .inr (.inr (d, _)) => if ((ty = 2 ∧ d = 6) ∨ (ty = 3 ∧ d = 5)) ∧ ¬ (i < 0 ∨ n ≤ i.toNatClampNeg) then some (r, jv_put h a (.inr (.inl (ty, n, va_up f i.toNatClampNeg (some b))))) else none
      | _, _ => none else none
    | _ => none
  | .arraylength => match st with
    | .ref a :: r => if a < h.2.1 ∨ (a = 1000000 ∧ ow = 10) then match h.1 a with
      | .inl (ty, n, _) => if ty < 2 ∧ a < h.2.1 ∨ ty = 9 ∧ a = 1000000 then some (.int (Int32.ofNat n) :: r, h) else none
      | .inr (.inl (ty, n, _)) => if (ty = 2 ∨ ty = 3) ∧ a < h.2.1 then some (.int (Int32.ofNat n) :: r, h) else none
      | _ => none else none
    | _ => none
  | .new idx => match jv_new ow idx with
    | some c => some (.ref h.2.1 :: st, jv_add h (.inr (.inr (c, (List.range (jv_fn c)).map (fun k => defaultValue (jv_fty c k))))) (jv_fn c))
    | none => none
  | .newarray t => match st with
    | .int n :: r => if ¬ n < 0 ∧ n.toNatClampNeg ≤ 100000 then (match t with
      | .int => some (.ref h.2.1 :: r, jv_add h (.inl (0, n.toNatClampNeg, fun _ => 0)) n.toNatClampNeg)
      | .boolean => some (.ref h.2.1 :: r, jv_add h (.inl (1, n.toNatClampNeg, fun _ => 0)) n.toNatClampNeg)
      | _ => none) else none
    | _ => none
  | .anewarray idx => match st with
    | .int n :: r => if ¬ n < 0 ∧ n.toNatClampNeg ≤ 100000 then (match jv_new ow idx with
      | some c => if c = 6 then some (.ref h.2.1 :: r, jv_add h (.inr (.inl (2, n.toNatClampNeg, fun _ => none))) n.toNatClampNeg)
        else if c = 5 then some (.ref h.2.1 :: r, jv_add h (.inr (.inl (3, n.toNatClampNeg, fun _ => none))) n.toNatClampNeg) else none
      | none => none) else none
    | _ => none
  | .ldc idx => match jv_ldc ow idx with
    | some v => some (v :: st, h)
    | none => none
  | _ => none
/-- one instruction that neither calls nor returns -/
def jv_step (ow : Nat) (ini : Bool) (i : Instr) (len pc : Nat) (L : List (Option Value)) (st : List Value) (h : jv_H) : Option (Nat × List (Option Value) × List Value × jv_H) := match jv_pure i st with
  | some st' => some (pc + len, L, st', h)
  | none => match jv_ld i L st with
    | some st' => some (pc + len, L, st', h)
    | none => match jv_br i pc st with
      | some (pc', st') => some (pc', L, st', h)
      | none => match jv_sto i L st with
        | some (L', st') => some (pc + len, L', st', h)
        | none => match jv_heap ow ini i st h with
          | some (st', h') => some (pc + len, L, st', h')
          | none => none
/-- returns: the answer -/
def jv_ret (ret : Option FieldType) (i : Instr) (st : List Value) : Option (Option Value) := match i, ret, st with
  | .return_, none, [] => some none
  | .ireturn, some ty, [.int v] => if narrow ty (.int v) = .int v then some (some (.int v)) else none
  | .areturn, some (.object _), [.ref a] => some (some (.ref a))
  | .freturn, some .float, [.float v] => some (some (.float v))
  | .dreturn, some .double, [.double v] => some (some (.double v))
  | _, _, _ => none
def jv_isC (i : Instr) : Option (Nat × Nat) := match i with
  | .invokestatic k => some (0, k)
  | .invokevirtual k => some (1, k)
  | .invokespecial k => some (2, k)
  | _ => none
def jv_wd (st : List Value) : Nat := (st.map fun v => v.category).sum
/-- the two members of String over the claim's texts -/
def jv_strlen (st : List Value) : Option (List Value) := match st with
  | .ref a :: r => match jv_tix a with
    | some i => some (.int (Int32.ofNat (jv_byt.getD i []).length) :: r)
    | none => none
  | _ => none
def jv_strat (st : List Value) : Option (List Value) := match st with
  | .int j :: .ref a :: r => match jv_tix a with
    | some i => if ¬ (j < 0 ∨ (jv_byt.getD i []).length ≤ j.toNatClampNeg) then some (.int ((jv_byt.getD i []).getD j.toNatClampNeg 0) :: r) else none
    | none => none
  | _ => none
/-- may a method with this room call that one: kinds, words, and the receiver's class -/
def jv_may (kd : Nat) (fr lo : Nat) (q : Nat × Nat × Nat × Nat × Nat × Nat) (na : Nat) (st : List Value) (h : jv_H) : Bool :=
  decide (q.2.1 = kd ∧ q.2.2.1 = na ∧ na ≤ st.length ∧ na ≤ q.2.2.2.1 ∧ q.2.2.2.2.1 + 1 ≤ fr ∧ 19 + q.2.2.2.1 + q.2.2.2.2.2 ≤ lo ∧ jv_wd (st.drop na) ≤ 8 ∧ jv_wd (st.take na) = na) &&
  (match kd with
   | 0 => true
   | _ => match (st.take na).getLast? with
     | some (.ref a) => decide (a < h.2.1) && (match h.1 a with
       | .inr (.inr (d, _)) => decide (d = q.1)
       | _ => false)
     | _ => false)
def jv_run : Nat → Nat → Nat → List (Option Value) → List Value → jv_H → Option (Option Value × jv_H)
  | 0, _, _, _, _, _ => none
  | n + 1, y, pc, L, st, h => match jv_inf y with
    | none => none
    | some (ow, kd, _, _, fr, lo) => match jv_code y pc with
      | none => none
      | some (i, len) => match jv_ret (jv_ym y).2.2 i st with
        | some r => some (r, h)
        | none => match jv_isC i with
          | none => match jv_step ow (decide (kd = 2)) i len pc L st h with
            | some (pc', L', st', h') => jv_run n y pc' L' st' h'
            | none => none
          | some (ck, idx) => match jv_cal ow idx with
            | none => none
            | some (z, na, _) => if z = 900 then (match st with
                | .ref _ :: r => if ck = 2 ∧ 1 ≤ fr ∧ jv_wd r + 12 ≤ lo then jv_run n y (pc + 3) L r h else none
                | _ => none)
              else if z = 901 then (match jv_strlen st with
                | some st' => if ck = 1 ∧ 2 ≤ fr ∧ 40 ≤ lo ∧ jv_wd (st.drop 1) ≤ 8 then jv_run n y (pc + 3) L st' h else none
                | none => none)
              else if z = 902 then (match jv_strat st with
                | some st' => if ck = 1 ∧ 6 ≤ fr ∧ 120 ≤ lo ∧ jv_wd (st.drop 2) ≤ 8 then jv_run n y (pc + 3) L st' h else none
                | none => none)
              else match jv_inf z with
                | none => none
                | some q => if jv_may ck fr lo q na st h = true then (match jv_run n z 0 ((st.take na).reverse.map some ++ List.replicate (q.2.2.2.1 - na) none) [] h with
                  | some (r, h1) => jv_run n y (pc + 3) L (r.toList ++ st.drop na) h1
                  | none => none) else none
end
section
/-! THE J MACHINE IS RIGHT, one instruction at a time: what works on stack and locals -/
section JSND
variable {p : Program} {l : Launch} {e : Env} {R : Room} {s : State} {m : MethodId} {args : Array Value} {below : List Frame} {meth : Method} {c : Code} {H : Heap} {locs : List Loc} {cells slots : Nat} {Q : State → Prop}
variable {cc : ByteArray} {pc : Nat} {ls : Array Slot} {ad : Nat → Nat}
/-- a value, its place turned into an address -/
def jv_vl (ad : Nat → Nat) (v : Value) : Value := match v with
  | .ref a => .ref (ad a)
  | w => w
theorem jv_vl_cat (ad : Nat → Nat) (v : Value) : (jv_vl ad v).category = v.category := by cases v <;> rfl
theorem jv_len1 {i : Instr} {len : Nat} (hl : jv_sw i = true ∨ len = jv_len i) (h : jv_sw i = false) : len = jv_len i := by
  rcases hl with hl | hl
  · rw [h] at hl; cases hl
  · exact hl
theorem jv_two_eq {f : Int32 → Int32 → Int32} {st st' : List Value} (h : jv_two f st = some st') : ∃ (y x : Int32) (r : List Value), st = .int y :: .int x :: r ∧ st' = .int (f x y) :: r := by
  unfold jv_two at h
  split at h
  · cases h; exact ⟨_, _, _, rfl, rfl⟩
  · cases h
set_option maxHeartbeats 4000000 in
theorem jv_pure_ok (hx : p.tables.exec = Jvm.exec) (hb : c.code = cc) {i : Instr} {len : Nat} {st st' : List Value} (hdg : decode cc pc = .ok (i, len)) (hl : jv_sw i = true ∨ len = jv_len i) (h : jv_pure i st = some st')
    (k : W p l e R s m args below meth c H locs cells slots Q (F0 m (pc + len) ls (st'.map (jv_vl ad)))) : W p l e R s m args below meth c H locs cells slots Q (F0 m pc ls (st.map (jv_vl ad))) := by
  unfold jv_pure at h
  split at h
  · have e := jv_len1 hl rfl; subst e; cases h; exact lv_iconst hx hb hdg rfl k
  · have e := jv_len1 hl rfl; subst e; cases h; exact lv_bipush hx hb hdg rfl k
  · have e := jv_len1 hl rfl; subst e; cases h; exact lv_sipush hx hb hdg rfl k
  · have e := jv_len1 hl rfl; subst e; obtain ⟨y, x, r, rfl, rfl⟩ := jv_two_eq h; exact lv_iadd hx hb hdg k
  · have e := jv_len1 hl rfl; subst e; obtain ⟨y, x, r, rfl, rfl⟩ := jv_two_eq h; exact lv_isub hx hb hdg k
  · have e := jv_len1 hl rfl; subst e; obtain ⟨y, x, r, rfl, rfl⟩ := jv_two_eq h; exact lv_imul hx hb hdg k
  · have e := jv_len1 hl rfl; subst e; obtain ⟨y, x, r, rfl, rfl⟩ := jv_two_eq h; exact lv_iand hx hb hdg k
  · have e := jv_len1 hl rfl; subst e; obtain ⟨y, x, r, rfl, rfl⟩ := jv_two_eq h; exact lv_ior hx hb hdg k
  · have e := jv_len1 hl rfl; subst e; obtain ⟨y, x, r, rfl, rfl⟩ := jv_two_eq h; exact lv_ixor hx hb hdg k
  · have e := jv_len1 hl rfl; subst e; obtain ⟨y, x, r, rfl, rfl⟩ := jv_two_eq h; exact lv_ishl hx hb hdg k
  · have e := jv_len1 hl rfl; subst e; obtain ⟨y, x, r, rfl, rfl⟩ := jv_two_eq h; exact lv_ishr hx hb hdg k
  · have e := jv_len1 hl rfl; subst e
    split at h
    · split at h
      · cases h
      · rename_i hne; cases h; exact lv_idiv hx hb hdg hne k
    · cases h
  · have e := jv_len1 hl rfl; subst e
    split at h
    · split at h
      · cases h
      · rename_i hne; cases h; exact lv_irem hx hb hdg hne k
    · cases h
  · have e := jv_len1 hl rfl; subst e
    split at h
    · cases h; exact lv_ineg hx hb hdg k
    · cases h
  · have e := jv_len1 hl rfl; subst e
    split at h
    · rename_i x r; cases h; exact lv_dup (va := .int x) hx hb hdg rfl k
    · rename_i a r; cases h; exact lv_dup (va := .ref (ad a)) hx hb hdg rfl k
    · cases h
  · have e := jv_len1 hl rfl; subst e
    split at h
    · rename_i x a r; cases h; exact lv_dup2_11 (va := .int x) (vb := .ref (ad a)) hx hb hdg rfl rfl k
    · cases h
  · have e := jv_len1 hl rfl; subst e
    split at h
    · rename_i x r; cases h; exact lv_pop (va := .int x) hx hb hdg rfl k
    · rename_i a r; cases h; exact lv_pop (va := .ref (ad a)) hx hb hdg rfl k
    · rename_i x r; cases h; exact lv_pop (va := .float x) hx hb hdg rfl k
    · cases h
  · have e := jv_len1 hl rfl; subst e
    split at h
    · rename_i x r; cases h; exact lv_pop2_2 (va := .double x) hx hb hdg rfl k
    · cases h
  · have e := jv_len1 hl rfl; subst e
    split at h
    · cases h; exact lv_i2f hx hb hdg k
    · cases h
  · have e := jv_len1 hl rfl; subst e
    split at h
    · cases h; exact lv_i2d hx hb hdg k
    · cases h
  · have e := jv_len1 hl rfl; subst e
    split at h
    · split at h
      · rename_i hne; cases h; exact lv_f2d hx hb hdg hne k
      · cases h
    · cases h
  · have e := jv_len1 hl rfl; subst e
    split at h
    · split at h
      · rename_i hne; cases h; exact lv_fdiv hx hb hdg hne k
      · cases h
    · cases h
  · have e := jv_len1 hl rfl; subst e
    split at h
    · split at h
      · rename_i hne; cases h; exact lv_ddiv hx hb hdg hne k
      · cases h
    · cases h
  · have e := jv_len1 hl rfl; subst e
    split at h
    · cases h; exact lv_dcmp hx hb hdg k
    · cases h
  · have e := jv_len1 hl rfl; subst e
    split at h
    · rename_i hk; subst hk; cases h; exact lv_fconst0 hx hb hdg k
    · cases h
  · have e := jv_len1 hl rfl; subst e
    split at h
    · rename_i hk; subst hk; cases h; exact lv_dconst0 hx hb hdg k
    · cases h
  · cases h
/-- the locals hold what the J machine's hold -/
def jv_Lc (ad : Nat → Nat) (ls : Array Slot) (nL : Nat) (L : List (Option Value)) : Prop := ls.size = nL ∧ L.length = nL ∧ lv_wf ls ∧ ∀ (i : Nat) (v : Value), L[i]? = some (some v) → ls[i]? = some (.val (jv_vl ad v))
theorem jv_ldI_eq {L : List (Option Value)} {i : Nat} {st st' : List Value} (h : jv_ldI L i st = some st') : ∃ x, L[i]? = some (some (.int x)) ∧ st' = .int x :: st := by
  unfold jv_ldI at h
  split at h
  · rename_i x hL; cases h; exact ⟨x, hL, rfl⟩
  · cases h
theorem jv_ldA_eq {L : List (Option Value)} {i : Nat} {st st' : List Value} (h : jv_ldA L i st = some st') : ∃ x, L[i]? = some (some (.ref x)) ∧ st' = .ref x :: st := by
  unfold jv_ldA at h
  split at h
  · rename_i x hL; cases h; exact ⟨x, hL, rfl⟩
  · cases h
theorem jv_ldD_eq {L : List (Option Value)} {i : Nat} {st st' : List Value} (h : jv_ldD L i st = some st') : ∃ x, L[i]? = some (some (.double x)) ∧ st' = .double x :: st := by
  unfold jv_ldD at h
  split at h
  · rename_i x hL; cases h; exact ⟨x, hL, rfl⟩
  · cases h
theorem jv_ld_ok (hx : p.tables.exec = Jvm.exec) (hb : c.code = cc) {i : Instr} {len nL : Nat} {L : List (Option Value)} {st st' : List Value} (hdg : decode cc pc = .ok (i, len)) (hl : jv_sw i = true ∨ len = jv_len i) (hL : jv_Lc ad ls nL L) (h : jv_ld i L st = some st')
    (k : W p l e R s m args below meth c H locs cells slots Q (F0 m (pc + len) ls (st'.map (jv_vl ad)))) : W p l e R s m args below meth c H locs cells slots Q (F0 m pc ls (st.map (jv_vl ad))) := by
  unfold jv_ld at h
  split at h
  · have e := jv_len1 hl rfl; subst e; obtain ⟨x, h1, rfl⟩ := jv_ldI_eq h; exact lv_iload_n (x := x) hx hb hdg rfl (hL.2.2.2 _ _ h1) k
  · have e := jv_len1 hl rfl; subst e; obtain ⟨x, h1, rfl⟩ := jv_ldI_eq h; exact lv_iload (x := x) hx hb hdg (hL.2.2.2 _ _ h1) k
  · have e := jv_len1 hl rfl; subst e; obtain ⟨x, h1, rfl⟩ := jv_ldA_eq h; exact lv_aload_n (x := ad x) hx hb hdg rfl (hL.2.2.2 _ _ h1) k
  · have e := jv_len1 hl rfl; subst e; obtain ⟨x, h1, rfl⟩ := jv_ldA_eq h; exact lv_aload (x := ad x) hx hb hdg (hL.2.2.2 _ _ h1) k
  · have e := jv_len1 hl rfl; subst e; obtain ⟨x, h1, rfl⟩ := jv_ldD_eq h; exact lv_dload_n (x := x) hx hb hdg rfl (hL.2.2.2 _ _ h1) k
  · have e := jv_len1 hl rfl; subst e; obtain ⟨x, h1, rfl⟩ := jv_ldD_eq h; exact lv_dload (x := x) hx hb hdg (hL.2.2.2 _ _ h1) k
  · cases h
theorem jv_jmp_eq {pc pc' : Nat} {off : Int} {st st' : List Value} (h : jv_jmp pc off st = some (pc', st')) : (pc : Int) + off = (pc' : Int) ∧ st' = st := by
  unfold jv_jmp at h
  split at h
  · cases h; exact ⟨by omega, rfl⟩
  · cases h
theorem jv_if_eq {b : Bool} {t : Nat × List Value} {u : Nat × List Value} {w : Nat × List Value} (h : (if b = true then some t else some u) = some w) : (b = true ∧ w = t) ∨ (b = false ∧ w = u) := by
  cases b
  · right; exact ⟨rfl, (Option.some.inj h).symm⟩
  · left; exact ⟨rfl, (Option.some.inj h).symm⟩
set_option maxHeartbeats 4000000 in
theorem jv_br_ok (hx : p.tables.exec = Jvm.exec) (hb : c.code = cc) {i : Instr} {len pc' : Nat} {st st' : List Value} (hdg : decode cc pc = .ok (i, len)) (hl : jv_sw i = true ∨ len = jv_len i) (h : jv_br i pc st = some (pc', st'))
    (k : W p l e R s m args below meth c H locs cells slots Q (F0 m pc' ls (st'.map (jv_vl ad)))) : W p l e R s m args below meth c H locs cells slots Q (F0 m pc ls (st.map (jv_vl ad))) := by
  unfold jv_br at h
  split at h
  · have e := jv_len1 hl rfl; subst e
    obtain ⟨ht, rfl⟩ := jv_jmp_eq h
    exact lv_goto hx hb hdg ht k
  · rename_i cnd off
    have e := jv_len1 hl rfl; subst e
    split at h
    · rename_i x r
      split at h
      · rename_i t hj
        obtain ⟨tp, ts⟩ := t
        obtain ⟨ht, rfl⟩ := jv_jmp_eq hj
        rcases jv_if_eq h with ⟨hc, hw⟩ | ⟨hc, hw⟩ <;> cases hw <;> cases cnd <;> simp only [jv_cc, decide_eq_true_eq, decide_eq_false_iff_not] at hc
        · exact lv_if_eq hx hb hdg ht (fun _ => k) (fun q => absurd hc q)
        · exact lv_if_ne hx hb hdg ht (fun _ => k) (fun q => absurd q hc)
        · exact lv_if_lt hx hb hdg ht (fun _ => k) (fun q => absurd hc q)
        · exact lv_if_ge hx hb hdg ht (fun _ => k) (fun q => absurd hc q)
        · exact lv_if_gt hx hb hdg ht (fun _ => k) (fun q => absurd hc q)
        · exact lv_if_le hx hb hdg ht (fun _ => k) (fun q => absurd hc q)
        · exact lv_if_eq hx hb hdg ht (fun q => absurd q hc) (fun _ => k)
        · exact lv_if_ne hx hb hdg ht (fun q => absurd q hc) (fun _ => k)
        · exact lv_if_lt hx hb hdg ht (fun q => absurd q hc) (fun _ => k)
        · exact lv_if_ge hx hb hdg ht (fun q => absurd q hc) (fun _ => k)
        · exact lv_if_gt hx hb hdg ht (fun q => absurd q hc) (fun _ => k)
        · exact lv_if_le hx hb hdg ht (fun q => absurd q hc) (fun _ => k)
      · cases h
    · cases h
  · rename_i cnd off
    have e := jv_len1 hl rfl; subst e
    split at h
    · rename_i y x r
      split at h
      · rename_i t hj
        obtain ⟨tp, ts⟩ := t
        obtain ⟨ht, rfl⟩ := jv_jmp_eq hj
        rcases jv_if_eq h with ⟨hc, hw⟩ | ⟨hc, hw⟩ <;> cases hw <;> cases cnd <;> simp only [jv_cc, decide_eq_true_eq, decide_eq_false_iff_not] at hc
        · exact lv_icmp_eq hx hb hdg ht (fun _ => k) (fun q => absurd hc q)
        · exact lv_icmp_ne hx hb hdg ht (fun _ => k) (fun q => absurd q hc)
        · exact lv_icmp_lt hx hb hdg ht (fun _ => k) (fun q => absurd hc q)
        · exact lv_icmp_ge hx hb hdg ht (fun _ => k) (fun q => absurd hc q)
        · exact lv_icmp_gt hx hb hdg ht (fun _ => k) (fun q => absurd hc q)
        · exact lv_icmp_le hx hb hdg ht (fun _ => k) (fun q => absurd hc q)
        · exact lv_icmp_eq hx hb hdg ht (fun q => absurd q hc) (fun _ => k)
        · exact lv_icmp_ne hx hb hdg ht (fun q => absurd q hc) (fun _ => k)
        · exact lv_icmp_lt hx hb hdg ht (fun q => absurd q hc) (fun _ => k)
        · exact lv_icmp_ge hx hb hdg ht (fun q => absurd q hc) (fun _ => k)
        · exact lv_icmp_gt hx hb hdg ht (fun q => absurd q hc) (fun _ => k)
        · exact lv_icmp_le hx hb hdg ht (fun q => absurd q hc) (fun _ => k)
      · cases h
    · cases h
  · split at h
    · split at h
      · rename_i hout
        obtain ⟨ht, rfl⟩ := jv_jmp_eq h
        exact lv_tableOut hx hb hdg hout ht k
      · rename_i hin
        split at h
        · rename_i off ho
          obtain ⟨ht, rfl⟩ := jv_jmp_eq h
          exact lv_tableIn hx hb hdg (fun q => hin (Or.inl q)) (fun q => hin (Or.inr q)) ho ht k
        · cases h
    · cases h
  · split at h
    · split at h
      · rename_i hp
        obtain ⟨ht, rfl⟩ := jv_jmp_eq h
        exact lv_lookup hx hb hdg hp rfl ht k
      · cases h
    · cases h
  · cases h
/-- the locals as pairs -/
def jv_prs (ad : Nat → Nat) (L : List (Option Value)) : List (Nat × Value) := (List.range L.length).filterMap (fun i => match L[i]? with
  | some (some v) => some (i, jv_vl ad v)
  | _ => none)
theorem jv_prs_mem {L : List (Option Value)} {i : Nat} {w : Value} : (i, w) ∈ jv_prs ad L ↔ ∃ v, L[i]? = some (some v) ∧ w = jv_vl ad v := by
  unfold jv_prs
  rw [List.mem_filterMap]
  constructor
  · rintro ⟨j, -, hj⟩
    split at hj
    · rename_i v hv
      cases hj
      exact ⟨v, hv, rfl⟩
    · cases hj
  · rintro ⟨v, hv, rfl⟩
    refine ⟨i, List.mem_range.mpr (List.getElem?_eq_some_iff.mp hv).1, ?_⟩
    rw [hv]
theorem jv_Lc.has {nL : Nat} {L : List (Option Value)} (h : jv_Lc ad ls nL L) : lv_has ls nL (jv_prs ad L) := by
  refine ⟨h.1, h.2.2.1, fun q hq => ?_⟩
  obtain ⟨i, w⟩ := q
  obtain ⟨v, hv, rfl⟩ := jv_prs_mem.mp hq
  exact h.2.2.2 i v hv
theorem jv_cat2_no {L : List (Option Value)} {j : Nat} {w : Value} (h : ¬ jv_cat2 L j = true) (hw : L[j]? = some (some w)) : ¬ w.category = 2 := by
  unfold jv_cat2 at h
  rw [hw] at h
  cases w <;> first | (intro q; cases q; done) | exact absurd rfl h
theorem jv_Lc.of1 {nL i : Nat} {v : Value} {L L' : List (Option Value)} {ls' : Array Slot} (hlen : L.length = nL) (hs : jv_set1 L i v = some L') (h : lv_has ls' nL ((i, jv_vl ad v) :: (jv_prs ad L).filter (fun q => !(q.1 == i) && !(q.1 + 1 == i && q.2.category == 2)))) : jv_Lc ad ls' nL L' := by
  have key : L' = L.set i (some v) ∧ i < L.length ∧ ∀ j, i = j + 1 → ¬ jv_cat2 L j = true := by
    unfold jv_set1 at hs
    split at hs
    · rename_i hi
      split at hs
      · cases hs; exact ⟨rfl, hi, fun j h => by omega⟩
      · split at hs
        · cases hs
        · rename_i hc
          cases hs; exact ⟨rfl, hi, fun j h => by rw [show j = _ from (Nat.succ.inj h).symm]; exact hc⟩
    · cases hs
  obtain ⟨rfl, hi, hcat⟩ := key
  refine ⟨h.1, by rw [List.length_set]; exact hlen, h.2.1, fun j w hj => ?_⟩
  by_cases hji : i = j
  · subst hji
    rw [List.getElem?_set_self hi] at hj
    cases hj
    exact h.2.2 (i, jv_vl ad v) List.mem_cons_self
  · rw [List.getElem?_set_ne hji] at hj
    refine h.2.2 (j, jv_vl ad w) (List.mem_cons_of_mem _ (List.mem_filter.mpr ⟨jv_prs_mem.mpr ⟨w, hj, rfl⟩, ?_⟩))
    have h1 : (j == i) = false := by simpa using fun q => hji q.symm
    have h2 : (j + 1 == i && (jv_vl ad w).category == 2) = false := by
      by_cases hq : j + 1 = i
      · have h3 := jv_cat2_no (hcat j hq.symm) hj
        rw [jv_vl_cat]
        simp [h3]
      · simp [hq]
    simp only [h1, h2]
    rfl
theorem jv_Lc.of2 {nL i : Nat} {v : Value} {L L' : List (Option Value)} {ls' : Array Slot} (hlen : L.length = nL) (hs : jv_set2 L i v = some L') (h : lv_has ls' nL ((i, jv_vl ad v) :: (jv_prs ad L).filter (fun q => !(q.1 == i) && (!(q.1 == i + 1) && !(q.1 + 1 == i && q.2.category == 2))))) : jv_Lc ad ls' nL L' := by
  have key : L' = (L.set i (some v)).set (i + 1) none ∧ i + 1 < L.length ∧ ∀ j, i = j + 1 → ¬ jv_cat2 L j = true := by
    unfold jv_set2 at hs
    split at hs
    · rename_i hi
      split at hs
      · cases hs; exact ⟨rfl, hi, fun j h => by omega⟩
      · split at hs
        · cases hs
        · rename_i hc
          cases hs; exact ⟨rfl, hi, fun j h => by rw [show j = _ from (Nat.succ.inj h).symm]; exact hc⟩
    · cases hs
  obtain ⟨rfl, hi, hcat⟩ := key
  refine ⟨h.1, by rw [List.length_set, List.length_set]; exact hlen, h.2.1, fun j w hj => ?_⟩
  by_cases hj1 : i + 1 = j
  · subst hj1
    rw [List.getElem?_set_self (by rw [List.length_set]; exact hi)] at hj
    cases hj
  rw [List.getElem?_set_ne hj1] at hj
  by_cases hji : i = j
  · subst hji
    rw [List.getElem?_set_self (by omega)] at hj
    cases hj
    exact h.2.2 (i, jv_vl ad v) List.mem_cons_self
  · rw [List.getElem?_set_ne hji] at hj
    refine h.2.2 (j, jv_vl ad w) (List.mem_cons_of_mem _ (List.mem_filter.mpr ⟨jv_prs_mem.mpr ⟨w, hj, rfl⟩, ?_⟩))
    have h1 : (j == i) = false := by simpa using fun q => hji q.symm
    have h4 : (j == i + 1) = false := by simpa using fun q => hj1 q.symm
    have h2 : (j + 1 == i && (jv_vl ad w).category == 2) = false := by
      by_cases hq : j + 1 = i
      · have h3 := jv_cat2_no (hcat j hq.symm) hj
        rw [jv_vl_cat]
        simp [h3]
      · simp [hq]
    simp only [h1, h2, h4]
    rfl
theorem jv_set1_lt {L L' : List (Option Value)} {i : Nat} {v : Value} (hs : jv_set1 L i v = some L') : i < L.length := by
  unfold jv_set1 at hs
  split at hs
  · assumption
  · cases hs
theorem jv_set2_lt {L L' : List (Option Value)} {i : Nat} {v : Value} (hs : jv_set2 L i v = some L') : i + 1 < L.length := by
  unfold jv_set2 at hs
  split at hs
  · assumption
  · cases hs
theorem jv_stI_eq {L L' : List (Option Value)} {i : Nat} {st st' : List Value} (h : jv_stI L i st = some (L', st')) : ∃ x, st = .int x :: st' ∧ jv_set1 L i (.int x) = some L' := by
  unfold jv_stI at h
  split at h
  · split at h
    · rename_i hs; cases h; exact ⟨_, rfl, hs⟩
    · cases h
  · cases h
theorem jv_stA_eq {L L' : List (Option Value)} {i : Nat} {st st' : List Value} (h : jv_stA L i st = some (L', st')) : ∃ x, st = .ref x :: st' ∧ jv_set1 L i (.ref x) = some L' := by
  unfold jv_stA at h
  split at h
  · split at h
    · rename_i hs; cases h; exact ⟨_, rfl, hs⟩
    · cases h
  · cases h
theorem jv_stD_eq {L L' : List (Option Value)} {i : Nat} {st st' : List Value} (h : jv_stD L i st = some (L', st')) : ∃ x, st = .double x :: st' ∧ jv_set2 L i (.double x) = some L' := by
  unfold jv_stD at h
  split at h
  · split at h
    · rename_i hs; cases h; exact ⟨_, rfl, hs⟩
    · cases h
  · cases h
theorem jv_sto_ok (hx : p.tables.exec = Jvm.exec) (hb : c.code = cc) {i : Instr} {len nL : Nat} {L L' : List (Option Value)} {st st' : List Value} (hdg : decode cc pc = .ok (i, len)) (hl : jv_sw i = true ∨ len = jv_len i) (hL : jv_Lc ad ls nL L) (h : jv_sto i L st = some (L', st'))
    (k : ∀ ls', jv_Lc ad ls' nL L' → W p l e R s m args below meth c H locs cells slots Q (F0 m (pc + len) ls' (st'.map (jv_vl ad)))) : W p l e R s m args below meth c H locs cells slots Q (F0 m pc ls (st.map (jv_vl ad))) := by
  have hn := hL.2.1
  unfold jv_sto at h
  split at h
  · have e := jv_len1 hl rfl; subst e; obtain ⟨x, rfl, h1⟩ := jv_stI_eq h
    exact lv_istore_n hx hb hdg rfl hL.has (hn ▸ jv_set1_lt h1) rfl (fun ls' h2 => k ls' (jv_Lc.of1 hn h1 h2))
  · have e := jv_len1 hl rfl; subst e; obtain ⟨x, rfl, h1⟩ := jv_stI_eq h
    exact lv_istore hx hb hdg hL.has (hn ▸ jv_set1_lt h1) rfl (fun ls' h2 => k ls' (jv_Lc.of1 hn h1 h2))
  · have e := jv_len1 hl rfl; subst e; obtain ⟨x, rfl, h1⟩ := jv_stA_eq h
    exact lv_astore_n hx hb hdg rfl hL.has (hn ▸ jv_set1_lt h1) rfl (fun ls' h2 => k ls' (jv_Lc.of1 hn h1 h2))
  · have e := jv_len1 hl rfl; subst e; obtain ⟨x, rfl, h1⟩ := jv_stA_eq h
    exact lv_astore hx hb hdg hL.has (hn ▸ jv_set1_lt h1) rfl (fun ls' h2 => k ls' (jv_Lc.of1 hn h1 h2))
  · have e := jv_len1 hl rfl; subst e; obtain ⟨x, rfl, h1⟩ := jv_stD_eq h
    exact lv_dstore_n hx hb hdg rfl hL.has (hn ▸ jv_set2_lt h1) rfl (fun ls' h2 => k ls' (jv_Lc.of2 hn h1 h2))
  · have e := jv_len1 hl rfl; subst e; obtain ⟨x, rfl, h1⟩ := jv_stD_eq h
    exact lv_dstore hx hb hdg hL.has (hn ▸ jv_set2_lt h1) rfl (fun ls' h2 => k ls' (jv_Lc.of2 hn h1 h2))
  · have e := jv_len1 hl rfl; subst e
    split at h
    · rename_i x hx1
      split at h
      · rename_i h1
        cases h
        obtain ⟨q, hq⟩ := List.getElem?_of_mem (jv_prs_mem (ad := ad).mpr ⟨_, hx1, rfl⟩)
        exact lv_iinc hx hb hdg hL.has hq rfl (hn ▸ jv_set1_lt h1) rfl (fun ls' h2 => k ls' (jv_Lc.of1 hn h1 h2))
      · cases h
    · cases h
  · cases h
end JSND
end
section
/-! THE J MACHINE IS RIGHT: what reads and writes cells -/
/-- the base of the new cells, the script's address, the texts' addresses -/
abbrev jv_G : Type := Nat × Nat × (Nat → Nat)
def jv_ad (G : jv_G) (k : Nat) : Nat := if k < 1000000 then G.1 + k else if k = 1000000 then G.2.1 else G.2.2 (k - 1000001)
theorem jv_ad_lt {G : jv_G} {k : Nat} (h : k < 1000000) : jv_ad G k = G.1 + k := if_pos h
theorem jv_ad_scr {G : jv_G} : jv_ad G 1000000 = G.2.1 := rfl
theorem jv_ad_txt {G : jv_G} (i : Nat) : jv_ad G (1000001 + i) = G.2.2 i := by
  unfold jv_ad
  rw [if_neg (by omega), if_neg (by omega), show 1000001 + i - 1000001 = i by omega]
def jv_ce (dA : Nat → ClassId) (ad : Nat → Nat) (x : jv_E) : va_E := match x with
  | .inl (ty, n, f) => .inl (dA ty, n, .inl f)
  | .inr (.inl (ty, n, f)) => .inl (dA ty, n, .inr (.inr (.inr (.inr (fun j => (f j).map ad)))))
  | .inr (.inr (c, fs)) => .inr (c, fs.map (jv_vl ad))
/-- the J machine's cells as a world of the kit's -/
def jv_ws (dA : Nat → ClassId) (G : jv_G) (h : jv_H) : va_W := (List.range h.2.1).map (fun k => (G.1 + k, jv_ce dA (jv_ad G) (h.1 k)))
theorem jv_ws_get {dA : Nat → ClassId} {G : jv_G} {h : jv_H} {k : Nat} (hk : k < h.2.1) : (jv_ws dA G h)[k]? = some (G.1 + k, jv_ce dA (jv_ad G) (h.1 k)) := by
  simp [jv_ws, hk]
theorem jv_ws_inv {dA : Nat → ClassId} {G : jv_G} {h : jv_H} {k : Nat} {q : Nat × va_E} (hk : (jv_ws dA G h)[k]? = some q) : q.1 = G.1 + k := by
  unfold jv_ws at hk
  rw [List.getElem?_map] at hk
  cases hr : (List.range h.2.1)[k]? with
  | none => rw [hr] at hk; cases hk
  | some j =>
    rw [hr] at hk
    have hj : j = k := by
      have h1 := List.getElem?_eq_some_iff.mp hr
      obtain ⟨h2, h3⟩ := h1
      rw [List.getElem_range] at h3
      exact h3.symm
    subst hj
    cases hk
    rfl
theorem jv_ws_set {dA : Nat → ClassId} {G : jv_G} {h : jv_H} {k : Nat} (x : jv_E) (hk : k < h.2.1) : (jv_ws dA G h).set k (G.1 + k, jv_ce dA (jv_ad G) x) = jv_ws dA G (jv_put h k x) := by
  apply List.ext_getElem?
  intro j
  by_cases hj : k = j
  · subst hj
    rw [List.getElem?_set_self (by simp [jv_ws, hk]), jv_ws_get (h := jv_put h k x) hk]
    simp [jv_put, jv_up]
  · rw [List.getElem?_set_ne hj]
    by_cases hlt : j < h.2.1
    · rw [jv_ws_get hlt, jv_ws_get (h := jv_put h k x) hlt]
      simp [jv_put, jv_up, Ne.symm hj]
    · rw [List.getElem?_eq_none (by simp [jv_ws]; omega), List.getElem?_eq_none (by simp [jv_ws, jv_put]; omega)]
theorem jv_ws_add {dA : Nat → ClassId} {G : jv_G} {h : jv_H} (x : jv_E) (n : Nat) : jv_ws dA G (jv_add h x n) = jv_ws dA G h ++ [(G.1 + h.2.1, jv_ce dA (jv_ad G) x)] := by
  unfold jv_ws jv_add
  simp only [List.range_succ, List.map_append, List.map_cons, List.map_nil]
  congr 1
  · apply List.map_congr_left
    intro k hk
    have h1 := List.mem_range.mp hk
    simp [jv_up, Nat.ne_of_lt h1]
  · simp [jv_up]
theorem jv_ws_D {dA : Nat → ClassId} {G : jv_G} {h : jv_H} : va_D (fun q => G.1 ≤ q) (jv_ws dA G h) := by
  refine ⟨fun i j p q hp hq hpq => ?_, fun k q hk => ?_⟩
  · rw [jv_ws_inv hp, jv_ws_inv hq] at hpq
    omega
  · show G.1 ≤ q.1
    rw [jv_ws_inv hk]
    omega
/-- what never changes: the script -/
def jv_fix (L : Nat) (xs : Nat → Int32) (h : jv_H) : Prop := h.1 1000000 = .inl (9, L, xs)
theorem jv_fix.up {L : Nat} {xs : Nat → Int32} {h h' : jv_H} (hf : jv_fix L xs h) {k : Nat} (hk : k < 1000000) {x : jv_E} (he : h'.1 = jv_up h.1 k x) : jv_fix L xs h' := by
  unfold jv_fix
  rw [he]
  unfold jv_up
  rw [if_neg (by omega)]
  exact hf
def jv_Rep (D : va_G) (dA : Nat → ClassId) (G : jv_G) (L : Nat) (xs : Nat → Int32) (h : jv_H) (H : Heap) : Prop := H.size = G.1 + h.2.1 ∧ h.2.1 ≤ 1000000 ∧ va_P D vwCl (jv_ws dA G h) H ∧ jv_fix L xs h
abbrev jv_tys (dA : Nat → ClassId) : List (ClassId × FieldType) := [(dA 0, .int), (dA 1, .boolean), (dA 2, .object "SeatSwap$Traveller"), (dA 3, .object "SeatSwap$Train")]
/-- what is said of classes, nest mates and the JDK's statics -/
def jv_K2 (G : jv_G) (U : State) : Prop := va_AO "SeatSwap$Traveller" U ∧ va_AO "SeatSwap$Train" U ∧ (∀ w ∈ jv_nests, va_Nw w U) ∧ va_Z "java/lang/String" "COMPACT_STRINGS" "Z" (.int 1) (fun q => G.1 ≤ q) U U.heap ∧
  ∃ v : Value, (v = .null ∨ ∃ a, v = .ref a) ∧ va_Z "jdk/internal/util/Preconditions" "SIOOBE_FORMATTER" "Ljava/util/function/BiFunction;" v (fun q => G.1 ≤ q) U U.heap
/-- what a method knows beside its cells -/
def jv_Kn (D : va_G) (dA : Nat → ClassId) (G : jv_G) (adV : Nat → Nat) (L : Nat) (xs : Nat → Int32) (U : State) : Prop :=
  va_K D vwCl (jv_tys dA) U ∧ va_X G.2.1 L xs U U.heap ∧ G.2.1 < G.1 ∧ G.1 ≤ U.heap.size ∧ vk_S 20 jv_lens jv_byt G.2.2 adV (fun q => G.1 ≤ q) U U.heap ∧ (∀ (i : Nat) (q : String × Nat × String), jv_str[i]? = some q → vk_R q.1 q.2.1 q.2.2 (G.2.2 i) U) ∧ jv_K2 G U
theorem jv_vl_fits (ad : Nat → Nat) (ty : FieldType) (v : Value) : fits ty (jv_vl ad v) = fits ty v := by
  cases v <;> first | rfl | (cases ty <;> rfl)
theorem jv_vl_narrow (ad : Nat → Nat) (ty : FieldType) (v : Value) (h : narrow ty v = v) : narrow ty (jv_vl ad v) = jv_vl ad v := by
  cases v <;> first | exact h | (cases ty <;> rfl)
theorem jv_vl_default (ad : Nat → Nat) (ty : FieldType) : jv_vl ad (defaultValue ty) = defaultValue ty := by
  cases ty <;> rfl
section JHP
variable {p : Program} {l : Launch} {e : Env} {R : Room} {s : State} {m : MethodId} {args : Array Value} {below : List Frame} {meth : Method} {c : Code} {H : Heap} {locs : List Loc} {cells slots : Nat} {Q : State → Prop}
variable {cc : ByteArray} {pc : Nat} {ls : Array Slot} {rest : List Value} {D : va_G} {cl : List vw_C} {A : Nat → Prop} {a : Nat} {tys : List (ClassId × FieldType)} {ws : va_W} {H0 : Heap}
/-- a field is written (a final one: in its class's constructor), and nothing is made -/
theorem jv_putW (hexec : p.tables.exec = Jvm.exec) (hb : c.code = cc) {own C : String} {T : u_T} {N ci index : Nat} {Ts : List Cond} (hts : ∀ w ∈ Ts, w.before args s = true) (hin : ∀ w ∈ u_ws C T N, w ∈ Ts) (ty0 : Nat → FieldType) (hty : ∀ k, k < N → parseFieldDescriptor (T k).2.2.1 = some (ty0 k)) (hnm : ∀ a, a < N → ∀ b, b < N → a ≠ b → (T a).2.1 ≠ (T b).2.1) (hown : s.vm.findClass own = some m.cls)
    (hK : va_K D cl tys s) (hP : va_P D cl ws H) (hD : va_D A ws) (hS0 : va_S A H0 H locs) (q0 : Nat) {fs : List Value} (he : ws[q0]? = some (a, .inr (ci, fs))) (hc : cl[ci]? = some (C, T, N)) (k : Nat) (hk : k < N) (hlink : (Cond.fieldLink own index (T k).1 (T k).2.1 (T k).2.2.1).before args s = true) (hfin : (T k).2.2.2 = false ∨ ((T k).2.2.2 = true ∧ meth.name = "<init>" ∧ (T k).1 = own))
    {v : Value} (hn : narrow (ty0 k) v = v) (hfit : fits (ty0 k) v = true) (hl : k < fs.length) (hdg : decode cc pc = .ok (.putfield index, 3))
    (kk : ∀ (H1 : Heap) (locs1 : List Loc), H1.size = H.size → va_P D cl (ws.set q0 (a, .inr (ci, fs.set k v))) H1 → va_S A H0 H1 locs1 → W p l e R s m args below meth c H1 locs1 cells slots Q (F0 m (pc + 3) ls rest)) : W p l e R s m args below meth c H locs cells slots Q (F0 m pc ls (v :: .ref a :: rest)) := by
  have hap := va_apart (own := own) hts hin ty0 hty hnm hK hc
  obtain ⟨r, h1, cell, q1, q2, q3, q4⟩ := hP q0 _ he
  have hr : r = (C, T, N) := Option.some.inj (h1.symm.trans hc)
  subst hr
  obtain ⟨hS, hfc, kC, hkC, hkind⟩ := hK.1 ci _ hc
  obtain ⟨cf, kf, fi, f, hi, hsl⟩ := hS k hk
  have hst := (u_facts hfc hkC (u_lays hts hin hk) hi).1
  have fin : ∀ H' : Heap, H'[a]? = some (cell.setSlot f.slot v) → (∀ q, q ≠ a → H'[q]? = H[q]?) → va_P D cl (ws.set q0 (a, .inr (ci, fs.set k v))) H' := by
    intro H' e1 e3
    rw [hsl] at e1
    exact hP.set hD he ⟨_, hc, t_OB.to (V := updV (vp_V fs) k v) ⟨_, e1, q2, q3, t_set q4 hap hk v⟩ (fun j _ => vp_updV_set hl v j)⟩ e3
  have hlay := hts _ (hin _ (u_in_lay hk))
  unfold u_lay at hlay
  rcases hfin with hfin | ⟨hfin, hin2, hdecl⟩
  · rw [if_neg (by rw [hfin]; decide)] at hlay
    have h6 := u_store hfc hkC hkind hlay hi (hty k hk) hn hfit
    exact W.putK hexec hb (f := f) ⟨hown, hlink, ⟨_, _, _, hi⟩, hst⟩ (by rw [q2]; exact h6) q1 q3 (by rw [hsl]; exact k2_hasslot (q4 k hk)) rfl rfl hdg fun H' e1 e2 e3 => kk H' _ e2 (fin H' e1 e3) (hS0.put e2 e3 (hD.2 q0 _ he))
  · rw [if_pos hfin] at hlay
    have hcf : m.cls = cf := by
      obtain ⟨_, _, c', _, _, _, -, -, hf', -, -, -, hown2, -⟩ := Cond.laysFinal_spec hlay
      have e1 : c' = cf := by have := hi.symm.trans hf'; simp at this; exact this.1.symm
      rw [hdecl] at hown2
      rw [← e1]; exact Option.some.inj (hown.symm.trans hown2)
    have h6 := u_fits hfc hkC hkind (Or.inr hlay) hi (hty k hk) hn hfit
    exact W.putFinK hexec hb hown hlink hi hst hcf hin2 (by rw [q2]; exact h6) q1 q3 (by rw [hsl]; exact k2_hasslot (q4 k hk)) rfl rfl hdg fun H' e1 e2 e3 => kk H' _ e2 (fin H' e1 e3) (hS0.put e2 e3 (hD.2 q0 _ he))
theorem jv_iastW (hexec : p.tables.exec = Jvm.exec) (hb : c.code = cc) (hK : va_K D cl tys s) (hP : va_P D cl ws H) (hD : va_D A ws) (hS : va_S A H0 H locs) (q0 t0 : Nat) {cA : ClassId} {n : Nat} {f : Nat → Int32} (ha : ws[q0]? = some (a, .inl (cA, n, .inl f))) (ht : tys[t0]? = some (cA, .int)) {i : Int32} {x : Int32} (hin : vp_in i n) (hdg : decode cc pc = .ok (.iastore, 1))
    (kk : ∀ (H1 : Heap) (locs1 : List Loc), H1.size = H.size → va_P D cl (ws.set q0 (a, .inl (cA, n, .inl (upd f i.toNatClampNeg x)))) H1 → va_S A H0 H1 locs1 → W p l e R s m args below meth c H1 locs1 cells slots Q (F0 m (pc + 1) ls rest)) : W p l e R s m args below meth c H locs cells slots Q (F0 m pc ls (.int x :: .int i :: .ref a :: rest)) := by
  refine W.iast hexec hb (hP q0 _ ha) ((hK.2 t0 _ ht).1 n (fun j => .int (f j))) (fun q => by cases q) (by show ¬ (i < 0 ∨ (arrV _ _ _).slots.size ≤ _); rw [arrV_size]; exact hin) rfl rfl hdg fun H1 e z oq => ?_
  refine kk H1 _ z (hP.set hD ha ?_ oq) (hS.put z oq (hD.2 q0 _ ha))
  show H1[a]? = some (vp_cell _ _)
  rw [e, vp_cell_i, vp_cell_i, arrV_store]
  congr 2
  funext q
  by_cases hq : q = i.toNatClampNeg
  · subst hq
    simp [updV, upd]
  · simp [updV, upd, hq]
theorem jv_zastW (hexec : p.tables.exec = Jvm.exec) (hb : c.code = cc) (hK : va_K D cl tys s) (hP : va_P D cl ws H) (hD : va_D A ws) (hS : va_S A H0 H locs) (q0 t0 : Nat) {cA : ClassId} {n : Nat} {f : Nat → Int32} (ha : ws[q0]? = some (a, .inl (cA, n, .inl f))) (ht : tys[t0]? = some (cA, .boolean)) {i : Int32} {x : Int32} (hx1 : x &&& 1 = x) (hin : vp_in i n) (hdg : decode cc pc = .ok (.bastore, 1))
    (kk : ∀ (H1 : Heap) (locs1 : List Loc), H1.size = H.size → va_P D cl (ws.set q0 (a, .inl (cA, n, .inl (upd f i.toNatClampNeg x)))) H1 → va_S A H0 H1 locs1 → W p l e R s m args below meth c H1 locs1 cells slots Q (F0 m (pc + 1) ls rest)) : W p l e R s m args below meth c H locs cells slots Q (F0 m pc ls (.int x :: .int i :: .ref a :: rest)) := by
  refine W.zast hexec hb (hP q0 _ ha) ((hK.2 t0 _ ht).1 n (fun j => .int (f j))) (fun q => by cases q) (by show ¬ (i < 0 ∨ (arrV _ _ _).slots.size ≤ _); rw [arrV_size]; exact hin) rfl rfl hdg fun H1 e z oq => ?_
  refine kk H1 _ z (hP.set hD ha ?_ oq) (hS.put z oq (hD.2 q0 _ ha))
  show H1[a]? = some (vp_cell _ _)
  rw [e, vp_cell_i, vp_cell_i, arrV_store]
  congr 2
  funext q
  by_cases hq : q = i.toNatClampNeg
  · subst hq
    simp [updV, upd, narrow, hx1]
  · simp [updV, upd, hq]
theorem jv_aastW (hexec : p.tables.exec = Jvm.exec) (hb : c.code = cc) (hK : va_K D cl tys s) (hP : va_P D cl ws H) (hD : va_D A ws) (hS : va_S A H0 H locs) (q0 t0 qk ci : Nat) {cA : ClassId} {r : vw_C} {n v : Nat} {vs : List Value} {f : Nat → Option Nat} (ha : ws[q0]? = some (a, .inl (cA, n, .inr (.inr (.inr (.inr f)))))) (ht : tys[t0]? = some (cA, .object r.1)) (hv : ws[qk]? = some (v, .inr (ci, vs))) (hc : cl[ci]? = some r) {i : Int32} (hin : vp_in i n) (hdg : decode cc pc = .ok (.aastore, 1))
    (kk : ∀ (H1 : Heap) (locs1 : List Loc), H1.size = H.size → va_P D cl (ws.set q0 (a, .inl (cA, n, .inr (.inr (.inr (.inr (va_up f i.toNatClampNeg (some v)))))))) H1 → va_S A H0 H1 locs1 → W p l e R s m args below meth c H1 locs1 cells slots Q (F0 m (pc + 1) ls rest)) : W p l e R s m args below meth c H locs cells slots Q (F0 m pc ls (.ref v :: .int i :: .ref a :: rest)) := by
  have hlt : i.toNatClampNeg < n := Nat.not_le.mp fun q => hin (Or.inr q)
  have h0 : ¬ i < 0 := fun q => hin (Or.inl q)
  obtain ⟨r', hr', cellV, g1, g2, g3, -⟩ := hP qk _ hv
  have hcls := (hK.1 ci r hc).2
  obtain ⟨kA, comp, k1, k2, k3, -⟩ := (hK.2 t0 _ ht).2
  have hcomp : comp = D.1 ci := Option.some.inj (k3.symm.trans hcls.1)
  subst hcomp
  obtain ⟨kC, hkC, -⟩ := hcls.2
  refine W.aast hexec hb (hP q0 _ ha) (fun q h => by cases h) (fun h => by cases h) k1 k2 rfl hkC ⟨h0, by show _ < (arrV _ _ _).slots.size; rw [arrV_size]; exact hlt⟩ g1 (fun q h => by rw [g3] at h; cases h) (by rw [g2]; exact hkC) (by rw [g2]; exact va_assign hcls) rfl rfl hdg fun H1 e z oq => ?_
  refine kk H1 _ z (hP.set hD ha ?_ oq) (hS.put z oq (hD.2 q0 _ ha))
  show H1[a]? = some (vp_cell _ _)
  rw [e, vp_cell_q, vp_cell_q, arrV_store]
  congr 2
  funext q
  by_cases hq : q = i.toNatClampNeg
  · subst hq
    simp [updV, va_up, va_rf]
  · simp [updV, va_up, hq]
end JHP
theorem jv_get_eq {ow idx : Nat} {st st' : List Value} {h : jv_H} (h0 : jv_get ow idx st h = some st') : ∃ (a : Nat) (r : List Value) (cx k : Nat) (fs : List Value) (v : Value), st = .ref a :: r ∧ jv_fld ow idx = some (cx, k) ∧ a < h.2.1 ∧ h.1 a = .inr (.inr (cx, fs)) ∧ fs[k]? = some v ∧ st' = v :: r := by
  unfold jv_get at h0
  split at h0
  · rename_i a r
    split at h0
    · rename_i cx k hf
      split at h0
      · rename_i ha
        split at h0
        · rename_i d fs hc
          split at h0
          · rename_i hd
            subst hd
            split at h0
            · rename_i v hv
              cases h0
              exact ⟨a, r, _, k, fs, v, rfl, hf, ha, hc, hv, rfl⟩
            · cases h0
          · cases h0
        · cases h0
      · cases h0
    · cases h0
  · cases h0
theorem jv_set_eq {ow idx : Nat} {ini : Bool} {st st' : List Value} {h h' : jv_H} (h0 : jv_set ow ini idx st h = some (st', h')) : ∃ (v : Value) (a : Nat) (cx k : Nat) (fs : List Value), st = v :: .ref a :: st' ∧ jv_fld ow idx = some (cx, k) ∧ a < h.2.1 ∧ h.1 a = .inr (.inr (cx, fs)) ∧ k < fs.length ∧ narrow (jv_fty cx k) v = v ∧ fits (jv_fty cx k) v = true ∧ ((jv_fT cx k).2.2.2 = false ∨ (ini = true ∧ cx = ow)) ∧ h' = jv_put h a (.inr (.inr (cx, fs.set k v))) := by
  unfold jv_set at h0
  split at h0
  · rename_i v a r
    split at h0
    · rename_i cx k hf
      split at h0
      · rename_i ha
        obtain ⟨ha, hn, hfi, hfin⟩ := ha
        split at h0
        · rename_i d fs hc
          split at h0
          · rename_i hd
            obtain ⟨hd, hk⟩ := hd
            subst hd
            cases h0
            exact ⟨v, a, _, k, fs, rfl, hf, ha, hc, hk, hn, hfi, hfin, rfl⟩
          · cases h0
        · cases h0
      · cases h0
    · cases h0
  · cases h0
section JHQ
variable {p : Program} {l : Launch} {e : Env} {R : Room} {s : State} {m : MethodId} {args : Array Value} {below : List Frame} {meth : Method} {c : Code} {H : Heap} {locs : List Loc} {cells slots : Nat} {Q : State → Prop}
variable {cc : ByteArray} {pc : Nat} {ls : Array Slot} {D : va_G} {dA : Nat → ClassId} {G : jv_G} {adV : Nat → Nat} {L : Nat} {xs : Nat → Int32}
theorem jv_Rep.at {h : jv_H} (hR : jv_Rep D dA G L xs h H) {a : Nat} (ha : a < h.2.1) {x : jv_E} (he : h.1 a = x) : (jv_ws dA G h)[a]? = some (jv_ad G a, jv_ce dA (jv_ad G) x) := by
  have h1 := hR.2.1
  rw [jv_ad_lt (by omega), ← he]
  exact jv_ws_get ha
theorem jv_Rep.put {h : jv_H} {H1 : Heap} (hR : jv_Rep D dA G L xs h H) {a : Nat} (ha : a < h.2.1) {x : jv_E} (hz : H1.size = H.size) (hP : va_P D vwCl ((jv_ws dA G h).set a (jv_ad G a, jv_ce dA (jv_ad G) x)) H1) : jv_Rep D dA G L xs (jv_put h a x) H1 := by
  have h1 := hR.2.1
  refine ⟨hz.trans hR.1, hR.2.1, ?_, hR.2.2.2.up (k := a) (x := x) (by omega) rfl⟩
  rw [jv_ad_lt (by omega), jv_ws_set x ha] at hP
  exact hP
theorem jv_Rep.add {h : jv_H} {H1 : Heap} (hR : jv_Rep D dA G L xs h H) {x : jv_E} {n : Nat} (hm : h.2.1 + 1 ≤ 1000000) (hz : H1.size = H.size + 1) (o1 : ∀ q : Nat, q < H.size → H1[q]? = H[q]?) (hat : va_at D vwCl (G.1 + h.2.1, jv_ce dA (jv_ad G) x) H1) : jv_Rep D dA G L xs (jv_add h x n) H1 := by
  refine ⟨?_, hm, ?_, hR.2.2.2.up (k := h.2.1) (x := x) (by omega) rfl⟩
  · rw [hz, hR.1]
    show G.1 + h.2.1 + 1 = G.1 + (h.2.1 + 1)
    omega
  · rw [jv_ws_add]
    refine (hR.2.2.1.kept (fun k q hk => o1 q.1 ((hR.2.2.1 k q hk).lt))).app (fun k q hk => ?_)
    have hz : k < 1 := (List.getElem?_eq_some_iff.mp hk).1
    rw [show k = 0 by omega] at hk
    cases hk
    exact hat
theorem jv_grow {A : Nat → Prop} {H0 H1 : Heap} (hS : va_S A H0 H locs) (hz : H1.size = H.size + 1) (o1 : ∀ q : Nat, q < H.size → H1[q]? = H[q]?) : va_S A H0 H1 locs :=
  ⟨Nat.le_trans hS.1 (by omega), fun x h1 h2 => (o1 x (Nat.lt_of_lt_of_le h1 hS.1)).trans (hS.2.1 x h1 h2), hS.2.2⟩
/-- what every case of jv_heap_ok has -/
def jv_Cx (p : Program) (s : State) (m : MethodId) (args : Array Value) (meth : Method) (c : Code) (cc : ByteArray) (ow : Nat) (ini : Bool) (D : va_G) (dA : Nat → ClassId) (G : jv_G) (adV : Nat → Nat) (L : Nat) (xs : Nat → Int32) (h : jv_H) (H : Heap) (locs : List Loc) : Prop :=
  p.tables.exec = Jvm.exec ∧ c.code = cc ∧ s.vm.findClass (jv_own ow) = some m.cls ∧ (∀ w ∈ jv_T, w.before args s = true) ∧ jv_Kn D dA G adV L xs s ∧ jv_Rep D dA G L xs h H ∧ va_S (fun q => G.1 ≤ q) s.heap H locs ∧ (ini = true → meth.name = "<init>")
set_option maxHeartbeats 8000000 in
set_option maxRecDepth 100000 in
theorem jv_h_getfield {ow : Nat} {ini : Bool} {h h' : jv_H} (X : jv_Cx p s m args meth c cc ow ini D dA G adV L xs h H locs) {idx : Nat} {len : Nat} {st st' : List Value} (hdg : decode cc pc = .ok (.getfield idx, len)) (hl : jv_sw (.getfield idx) = true ∨ len = jv_len (.getfield idx)) (h0 : jv_heap ow ini (.getfield idx) st h = some (st', h')) (hm : h'.2.1 ≤ 1000000) (hc : cells + (h'.2.1 - h.2.1) ≤ R.cells) (hs : slots + (h'.2.2 - h.2.2) ≤ R.slots)
    (k : ∀ (H' : Heap) (locs' : List Loc) (cells' slots' : Nat), cells' = cells + (h'.2.1 - h.2.1) → slots' = slots + (h'.2.2 - h.2.2) → jv_Rep D dA G L xs h' H' → va_S (fun q => G.1 ≤ q) s.heap H' locs' → W p l e R s m args below meth c H' locs' cells' slots' Q (F0 m (pc + len) ls (st'.map (jv_vl (jv_ad G))))) :
    W p l e R s m args below meth c H locs cells slots Q (F0 m pc ls (st.map (jv_vl (jv_ad G)))) := by
  obtain ⟨hx, hb, hown, hts, hK, hR, hS, hini⟩ := X
  unfold jv_heap at h0
  dsimp only at h0
  have e := jv_len1 hl rfl; subst e
  split at h0
  · rename_i st1 hg
    cases h0
    obtain ⟨a, r, cx, kf, fs, v, rfl, hf, ha, he, hv, rfl⟩ := jv_get_eq hg
    have hck := jv_ckf_ok hf
    simp only [jv_ckf1, Bool.and_eq_true, decide_eq_true_eq] at hck
    obtain ⟨⟨hcx, hkf⟩, hw⟩ := hck
    exact va_get (D := D) (ci := cx) (v := jv_vl (jv_ad G) v) hx hb hts (jv_ws_in cx hcx) hown hK.1 hR.2.2.1 a (hR.at ha he) (jv_cls_ok cx hcx) kf hkf (hts _ (jv_in_ok hw)) (fun _ q => q) (by rw [List.getElem?_map, hv]; rfl) hdg (k H locs cells slots (by omega) (by omega) hR hS)
  · cases h0
set_option maxHeartbeats 8000000 in
set_option maxRecDepth 100000 in
theorem jv_h_putfield {ow : Nat} {ini : Bool} {h h' : jv_H} (X : jv_Cx p s m args meth c cc ow ini D dA G adV L xs h H locs) {idx : Nat} {len : Nat} {st st' : List Value} (hdg : decode cc pc = .ok (.putfield idx, len)) (hl : jv_sw (.putfield idx) = true ∨ len = jv_len (.putfield idx)) (h0 : jv_heap ow ini (.putfield idx) st h = some (st', h')) (hm : h'.2.1 ≤ 1000000) (hc : cells + (h'.2.1 - h.2.1) ≤ R.cells) (hs : slots + (h'.2.2 - h.2.2) ≤ R.slots)
    (k : ∀ (H' : Heap) (locs' : List Loc) (cells' slots' : Nat), cells' = cells + (h'.2.1 - h.2.1) → slots' = slots + (h'.2.2 - h.2.2) → jv_Rep D dA G L xs h' H' → va_S (fun q => G.1 ≤ q) s.heap H' locs' → W p l e R s m args below meth c H' locs' cells' slots' Q (F0 m (pc + len) ls (st'.map (jv_vl (jv_ad G))))) :
    W p l e R s m args below meth c H locs cells slots Q (F0 m pc ls (st.map (jv_vl (jv_ad G)))) := by
  obtain ⟨hx, hb, hown, hts, hK, hR, hS, hini⟩ := X
  unfold jv_heap at h0
  dsimp only at h0
  have e := jv_len1 hl rfl; subst e
  obtain ⟨v, a, cx, kf, fs, rfl, hf, ha, he, hkl, hn, hfi, hfin, rfl⟩ := jv_set_eq h0
  have hck := jv_ckf_ok hf
  simp only [jv_ckf1, Bool.and_eq_true, decide_eq_true_eq] at hck
  obtain ⟨⟨hcx, hkf⟩, hw⟩ := hck
  refine jv_putW (D := D) (ci := cx) (v := jv_vl (jv_ad G) v) hx hb hts (jv_ws_in cx hcx) (jv_fty cx) (jv_ty_ok cx hcx) (jv_nm_ok cx hcx) hown hK.1 hR.2.2.1 jv_ws_D hS a (hR.at ha he) (jv_cls_ok cx hcx) kf hkf (hts _ (jv_in_ok hw)) ?_ (jv_vl_narrow _ _ _ hn) (by rw [jv_vl_fits]; exact hfi) (by rw [List.length_map]; exact hkl) hdg (fun H1 locs1 z hP1 hS1 => ?_)
  · rcases hfin with q | ⟨q1, q2⟩
    · exact Or.inl q
    · by_cases hf2 : (jv_fT cx kf).2.2.2 = true
      · exact Or.inr ⟨hf2, hini q1, by rw [← q2]; exact jv_dcl_ok cx hcx kf hkf⟩
      · exact Or.inl (by simpa using hf2)
  · refine k H1 locs1 cells slots (by show cells = cells + (h.2.1 - h.2.1); omega) (by show slots = slots + (h.2.2 - h.2.2); omega) (hR.put ha z ?_) hS1
    rw [← List.map_set] at hP1
    exact hP1
set_option maxHeartbeats 8000000 in
set_option maxRecDepth 100000 in
theorem jv_h_iaload {ow : Nat} {ini : Bool} {h h' : jv_H} (X : jv_Cx p s m args meth c cc ow ini D dA G adV L xs h H locs)  {len : Nat} {st st' : List Value} (hdg : decode cc pc = .ok (.iaload, len)) (hl : jv_sw (.iaload) = true ∨ len = jv_len (.iaload)) (h0 : jv_heap ow ini (.iaload) st h = some (st', h')) (hm : h'.2.1 ≤ 1000000) (hc : cells + (h'.2.1 - h.2.1) ≤ R.cells) (hs : slots + (h'.2.2 - h.2.2) ≤ R.slots)
    (k : ∀ (H' : Heap) (locs' : List Loc) (cells' slots' : Nat), cells' = cells + (h'.2.1 - h.2.1) → slots' = slots + (h'.2.2 - h.2.2) → jv_Rep D dA G L xs h' H' → va_S (fun q => G.1 ≤ q) s.heap H' locs' → W p l e R s m args below meth c H' locs' cells' slots' Q (F0 m (pc + len) ls (st'.map (jv_vl (jv_ad G))))) :
    W p l e R s m args below meth c H locs cells slots Q (F0 m pc ls (st.map (jv_vl (jv_ad G)))) := by
  obtain ⟨hx, hb, hown, hts, hK, hR, hS, hini⟩ := X
  unfold jv_heap at h0
  dsimp only at h0
  have e := jv_len1 hl rfl; subst e
  split at h0
  · rename_i j a r
    split at h0
    · split at h0
      · rename_i ty n f he
        split at h0
        · rename_i hq
          cases h0
          obtain ⟨h1 | h1, hin⟩ := hq
          · obtain ⟨rfl, ha⟩ := h1
            exact va_iald (D := D) hx hb hK.1 hR.2.2.1 a 0 (hR.at ha he) rfl hin hdg (k H locs cells slots (by omega) (by omega) hR hS)
          · obtain ⟨rfl, rfl⟩ := h1
            rw [show h.1 1000000 = .inl (9, L, xs) from hR.2.2.2] at he
            cases he
            show W p l e R s m args below meth c H locs cells slots Q (F0 m pc ls (.int j :: .ref (jv_ad G 1000000) :: r.map (jv_vl (jv_ad G))))
            rw [jv_ad_scr]
            exact va_sld hx hb hK.2.1 (Nat.lt_of_lt_of_le hK.2.2.1 hK.2.2.2.1) (Nat.not_le.mpr hK.2.2.1) hS hin hdg (k H locs cells slots (by omega) (by omega) hR hS)
        · cases h0
      · cases h0
    · cases h0
  · cases h0
set_option maxHeartbeats 8000000 in
set_option maxRecDepth 100000 in
theorem jv_h_baload {ow : Nat} {ini : Bool} {h h' : jv_H} (X : jv_Cx p s m args meth c cc ow ini D dA G adV L xs h H locs)  {len : Nat} {st st' : List Value} (hdg : decode cc pc = .ok (.baload, len)) (hl : jv_sw (.baload) = true ∨ len = jv_len (.baload)) (h0 : jv_heap ow ini (.baload) st h = some (st', h')) (hm : h'.2.1 ≤ 1000000) (hc : cells + (h'.2.1 - h.2.1) ≤ R.cells) (hs : slots + (h'.2.2 - h.2.2) ≤ R.slots)
    (k : ∀ (H' : Heap) (locs' : List Loc) (cells' slots' : Nat), cells' = cells + (h'.2.1 - h.2.1) → slots' = slots + (h'.2.2 - h.2.2) → jv_Rep D dA G L xs h' H' → va_S (fun q => G.1 ≤ q) s.heap H' locs' → W p l e R s m args below meth c H' locs' cells' slots' Q (F0 m (pc + len) ls (st'.map (jv_vl (jv_ad G))))) :
    W p l e R s m args below meth c H locs cells slots Q (F0 m pc ls (st.map (jv_vl (jv_ad G)))) := by
  obtain ⟨hx, hb, hown, hts, hK, hR, hS, hini⟩ := X
  unfold jv_heap at h0
  dsimp only at h0
  have e := jv_len1 hl rfl; subst e
  split at h0
  · rename_i j a r
    split at h0
    · rename_i ha
      split at h0
      · rename_i ty n f he
        split at h0
        · rename_i hq
          cases h0
          obtain ⟨rfl, hin⟩ := hq
          exact va_zald (D := D) hx hb hK.1 hR.2.2.1 a 1 (hR.at ha he) rfl hin hdg (k H locs cells slots (by omega) (by omega) hR hS)
        · cases h0
      · cases h0
    · cases h0
  · cases h0
set_option maxHeartbeats 8000000 in
set_option maxRecDepth 100000 in
theorem jv_h_aaload {ow : Nat} {ini : Bool} {h h' : jv_H} (X : jv_Cx p s m args meth c cc ow ini D dA G adV L xs h H locs)  {len : Nat} {st st' : List Value} (hdg : decode cc pc = .ok (.aaload, len)) (hl : jv_sw (.aaload) = true ∨ len = jv_len (.aaload)) (h0 : jv_heap ow ini (.aaload) st h = some (st', h')) (hm : h'.2.1 ≤ 1000000) (hc : cells + (h'.2.1 - h.2.1) ≤ R.cells) (hs : slots + (h'.2.2 - h.2.2) ≤ R.slots)
    (k : ∀ (H' : Heap) (locs' : List Loc) (cells' slots' : Nat), cells' = cells + (h'.2.1 - h.2.1) → slots' = slots + (h'.2.2 - h.2.2) → jv_Rep D dA G L xs h' H' → va_S (fun q => G.1 ≤ q) s.heap H' locs' → W p l e R s m args below meth c H' locs' cells' slots' Q (F0 m (pc + len) ls (st'.map (jv_vl (jv_ad G))))) :
    W p l e R s m args below meth c H locs cells slots Q (F0 m pc ls (st.map (jv_vl (jv_ad G)))) := by
  obtain ⟨hx, hb, hown, hts, hK, hR, hS, hini⟩ := X
  unfold jv_heap at h0
  dsimp only at h0
  have e := jv_len1 hl rfl; subst e
  split at h0
  · rename_i j a r
    split at h0
    · rename_i ha
      split at h0
      · rename_i ty n f he
        split at h0
        · rename_i hq
          obtain ⟨hty, hin⟩ := hq
          split at h0
          · rename_i b hfb
            cases h0
            have kk := k H locs cells slots (by omega) (by omega) hR hS
            rcases hty with rfl | rfl
            · refine va_aldq (D := D) hx hb hK.1 hR.2.2.1 a 2 (hR.at ha he) rfl hin hdg ?_
              rw [hfb]
              exact kk
            · refine va_aldq (D := D) hx hb hK.1 hR.2.2.1 a 3 (hR.at ha he) rfl hin hdg ?_
              rw [hfb]
              exact kk
          · cases h0
        · cases h0
      · cases h0
    · cases h0
  · cases h0
set_option maxHeartbeats 8000000 in
set_option maxRecDepth 100000 in
theorem jv_h_iastore {ow : Nat} {ini : Bool} {h h' : jv_H} (X : jv_Cx p s m args meth c cc ow ini D dA G adV L xs h H locs)  {len : Nat} {st st' : List Value} (hdg : decode cc pc = .ok (.iastore, len)) (hl : jv_sw (.iastore) = true ∨ len = jv_len (.iastore)) (h0 : jv_heap ow ini (.iastore) st h = some (st', h')) (hm : h'.2.1 ≤ 1000000) (hc : cells + (h'.2.1 - h.2.1) ≤ R.cells) (hs : slots + (h'.2.2 - h.2.2) ≤ R.slots)
    (k : ∀ (H' : Heap) (locs' : List Loc) (cells' slots' : Nat), cells' = cells + (h'.2.1 - h.2.1) → slots' = slots + (h'.2.2 - h.2.2) → jv_Rep D dA G L xs h' H' → va_S (fun q => G.1 ≤ q) s.heap H' locs' → W p l e R s m args below meth c H' locs' cells' slots' Q (F0 m (pc + len) ls (st'.map (jv_vl (jv_ad G))))) :
    W p l e R s m args below meth c H locs cells slots Q (F0 m pc ls (st.map (jv_vl (jv_ad G)))) := by
  obtain ⟨hx, hb, hown, hts, hK, hR, hS, hini⟩ := X
  unfold jv_heap at h0
  dsimp only at h0
  have e := jv_len1 hl rfl; subst e
  split at h0
  · rename_i x j a r
    split at h0
    · rename_i ha
      split at h0
      · rename_i ty n f he
        split at h0
        · rename_i hq
          obtain ⟨rfl, hin⟩ := hq
          cases h0
          exact jv_iastW (D := D) hx hb hK.1 hR.2.2.1 jv_ws_D hS a 0 (hR.at ha he) rfl hin hdg (fun H1 locs1 z hP1 hS1 => k H1 locs1 cells slots (by show cells = cells + (h.2.1 - h.2.1); omega) (by show slots = slots + (h.2.2 - h.2.2); omega) (hR.put ha z hP1) hS1)
        · cases h0
      · cases h0
    · cases h0
  · cases h0
set_option maxHeartbeats 8000000 in
set_option maxRecDepth 100000 in
theorem jv_h_bastore {ow : Nat} {ini : Bool} {h h' : jv_H} (X : jv_Cx p s m args meth c cc ow ini D dA G adV L xs h H locs)  {len : Nat} {st st' : List Value} (hdg : decode cc pc = .ok (.bastore, len)) (hl : jv_sw (.bastore) = true ∨ len = jv_len (.bastore)) (h0 : jv_heap ow ini (.bastore) st h = some (st', h')) (hm : h'.2.1 ≤ 1000000) (hc : cells + (h'.2.1 - h.2.1) ≤ R.cells) (hs : slots + (h'.2.2 - h.2.2) ≤ R.slots)
    (k : ∀ (H' : Heap) (locs' : List Loc) (cells' slots' : Nat), cells' = cells + (h'.2.1 - h.2.1) → slots' = slots + (h'.2.2 - h.2.2) → jv_Rep D dA G L xs h' H' → va_S (fun q => G.1 ≤ q) s.heap H' locs' → W p l e R s m args below meth c H' locs' cells' slots' Q (F0 m (pc + len) ls (st'.map (jv_vl (jv_ad G))))) :
    W p l e R s m args below meth c H locs cells slots Q (F0 m pc ls (st.map (jv_vl (jv_ad G)))) := by
  obtain ⟨hx, hb, hown, hts, hK, hR, hS, hini⟩ := X
  unfold jv_heap at h0
  dsimp only at h0
  have e := jv_len1 hl rfl; subst e
  split at h0
  · rename_i x j a r
    split at h0
    · rename_i ha
      obtain ⟨ha, hx1⟩ := ha
      split at h0
      · rename_i ty n f he
        split at h0
        · rename_i hq
          obtain ⟨rfl, hin⟩ := hq
          cases h0
          exact jv_zastW (D := D) hx hb hK.1 hR.2.2.1 jv_ws_D hS a 1 (hR.at ha he) rfl hx1 hin hdg (fun H1 locs1 z hP1 hS1 => k H1 locs1 cells slots (by show cells = cells + (h.2.1 - h.2.1); omega) (by show slots = slots + (h.2.2 - h.2.2); omega) (hR.put ha z hP1) hS1)
        · cases h0
      · cases h0
    · cases h0
  · cases h0
set_option maxHeartbeats 8000000 in
set_option maxRecDepth 100000 in
theorem jv_h_aastore {ow : Nat} {ini : Bool} {h h' : jv_H} (X : jv_Cx p s m args meth c cc ow ini D dA G adV L xs h H locs)  {len : Nat} {st st' : List Value} (hdg : decode cc pc = .ok (.aastore, len)) (hl : jv_sw (.aastore) = true ∨ len = jv_len (.aastore)) (h0 : jv_heap ow ini (.aastore) st h = some (st', h')) (hm : h'.2.1 ≤ 1000000) (hc : cells + (h'.2.1 - h.2.1) ≤ R.cells) (hs : slots + (h'.2.2 - h.2.2) ≤ R.slots)
    (k : ∀ (H' : Heap) (locs' : List Loc) (cells' slots' : Nat), cells' = cells + (h'.2.1 - h.2.1) → slots' = slots + (h'.2.2 - h.2.2) → jv_Rep D dA G L xs h' H' → va_S (fun q => G.1 ≤ q) s.heap H' locs' → W p l e R s m args below meth c H' locs' cells' slots' Q (F0 m (pc + len) ls (st'.map (jv_vl (jv_ad G))))) :
    W p l e R s m args below meth c H locs cells slots Q (F0 m pc ls (st.map (jv_vl (jv_ad G)))) := by
  obtain ⟨hx, hb, hown, hts, hK, hR, hS, hini⟩ := X
  unfold jv_heap at h0
  dsimp only at h0
  have e := jv_len1 hl rfl; subst e
  split at h0
  · rename_i b j a r
    split at h0
    · rename_i ha
      obtain ⟨ha, hb1⟩ := ha
      split at h0
      · rename_i ty n f d vs he heb
        split at h0
        · rename_i hq
          obtain ⟨hty, hin⟩ := hq
          cases h0
          have hup : (fun q => ((va_up f j.toNatClampNeg (some b)) q).map (jv_ad G)) = va_up (fun q => (f q).map (jv_ad G)) j.toNatClampNeg (some (jv_ad G b)) := by
            funext q
            unfold va_up
            split <;> rfl
          have fin : ∀ (H1 : Heap) (locs1 : List Loc), H1.size = H.size → va_P D vwCl ((jv_ws dA G h).set a (jv_ad G a, .inl (dA ty, n, .inr (.inr (.inr (.inr (va_up (fun q => (f q).map (jv_ad G)) j.toNatClampNeg (some (jv_ad G b))))))))) H1 → va_S (fun q => G.1 ≤ q) s.heap H1 locs1 → W p l e R s m args below meth c H1 locs1 cells slots Q (F0 m (pc + 1) ls (st'.map (jv_vl (jv_ad G)))) := by
            intro H1 locs1 z hP1 hS1
            rw [← hup] at hP1
            exact k H1 locs1 cells slots (by show cells = cells + (h.2.1 - h.2.1); omega) (by show slots = slots + (h.2.2 - h.2.2); omega) (hR.put (x := .inr (.inl (ty, n, va_up f j.toNatClampNeg (some b)))) ha z hP1) hS1
          rcases hty with ⟨rfl, rfl⟩ | ⟨rfl, rfl⟩
          · exact jv_aastW (D := D) (r := (jv_own 6, jv_fT 6, jv_fn 6)) hx hb hK.1 hR.2.2.1 jv_ws_D hS a 2 b 6 (hR.at ha he) rfl (hR.at hb1 heb) (jv_cls_ok 6 (by decide)) hin hdg fin
          · exact jv_aastW (D := D) (r := (jv_own 5, jv_fT 5, jv_fn 5)) hx hb hK.1 hR.2.2.1 jv_ws_D hS a 3 b 5 (hR.at ha he) rfl (hR.at hb1 heb) (jv_cls_ok 5 (by decide)) hin hdg fin
        · cases h0
      · cases h0
    · cases h0
  · cases h0
set_option maxHeartbeats 8000000 in
set_option maxRecDepth 100000 in
theorem jv_h_arraylength {ow : Nat} {ini : Bool} {h h' : jv_H} (X : jv_Cx p s m args meth c cc ow ini D dA G adV L xs h H locs)  {len : Nat} {st st' : List Value} (hdg : decode cc pc = .ok (.arraylength, len)) (hl : jv_sw (.arraylength) = true ∨ len = jv_len (.arraylength)) (h0 : jv_heap ow ini (.arraylength) st h = some (st', h')) (hm : h'.2.1 ≤ 1000000) (hc : cells + (h'.2.1 - h.2.1) ≤ R.cells) (hs : slots + (h'.2.2 - h.2.2) ≤ R.slots)
    (k : ∀ (H' : Heap) (locs' : List Loc) (cells' slots' : Nat), cells' = cells + (h'.2.1 - h.2.1) → slots' = slots + (h'.2.2 - h.2.2) → jv_Rep D dA G L xs h' H' → va_S (fun q => G.1 ≤ q) s.heap H' locs' → W p l e R s m args below meth c H' locs' cells' slots' Q (F0 m (pc + len) ls (st'.map (jv_vl (jv_ad G))))) :
    W p l e R s m args below meth c H locs cells slots Q (F0 m pc ls (st.map (jv_vl (jv_ad G)))) := by
  obtain ⟨hx, hb, hown, hts, hK, hR, hS, hini⟩ := X
  unfold jv_heap at h0
  dsimp only at h0
  have e := jv_len1 hl rfl; subst e
  split at h0
  · rename_i a r
    split at h0
    · split at h0
      · rename_i ty n f he
        split at h0
        · rename_i hq
          cases h0
          have kk := k H locs cells slots (by omega) (by omega) hR hS
          rcases hq with ⟨hty, ha⟩ | ⟨rfl, rfl⟩
          · match ty, hty with
            | 0, _ => exact va_alen (D := D) hx hb hK.1 hR.2.2.1 a 0 (hR.at ha he) rfl rfl hdg kk
            | 1, _ => exact va_alen (D := D) hx hb hK.1 hR.2.2.1 a 1 (hR.at ha he) rfl rfl hdg kk
            | q + 2, hq => omega
          · rw [show h.1 1000000 = .inl (9, L, xs) from hR.2.2.2] at he
            cases he
            show W p l e R s m args below meth c H locs cells slots Q (F0 m pc ls (.ref (jv_ad G 1000000) :: r.map (jv_vl (jv_ad G))))
            rw [jv_ad_scr]
            exact va_slen hx hb hK.2.1 (Nat.lt_of_lt_of_le hK.2.2.1 hK.2.2.2.1) (Nat.not_le.mpr hK.2.2.1) hS hdg kk
        · cases h0
      · rename_i ty n f he
        split at h0
        · rename_i hq
          cases h0
          obtain ⟨hty, ha⟩ := hq
          have kk := k H locs cells slots (by omega) (by omega) hR hS
          rcases hty with rfl | rfl
          · exact va_alen (D := D) hx hb hK.1 hR.2.2.1 a 2 (hR.at ha he) rfl rfl hdg kk
          · exact va_alen (D := D) hx hb hK.1 hR.2.2.1 a 3 (hR.at ha he) rfl rfl hdg kk
        · cases h0
      · cases h0
    · cases h0
  · cases h0
set_option maxHeartbeats 8000000 in
set_option maxRecDepth 100000 in
theorem jv_h_new {ow : Nat} {ini : Bool} {h h' : jv_H} (X : jv_Cx p s m args meth c cc ow ini D dA G adV L xs h H locs) {idx : Nat} {len : Nat} {st st' : List Value} (hdg : decode cc pc = .ok (.new idx, len)) (hl : jv_sw (.new idx) = true ∨ len = jv_len (.new idx)) (h0 : jv_heap ow ini (.new idx) st h = some (st', h')) (hm : h'.2.1 ≤ 1000000) (hc : cells + (h'.2.1 - h.2.1) ≤ R.cells) (hs : slots + (h'.2.2 - h.2.2) ≤ R.slots)
    (k : ∀ (H' : Heap) (locs' : List Loc) (cells' slots' : Nat), cells' = cells + (h'.2.1 - h.2.1) → slots' = slots + (h'.2.2 - h.2.2) → jv_Rep D dA G L xs h' H' → va_S (fun q => G.1 ≤ q) s.heap H' locs' → W p l e R s m args below meth c H' locs' cells' slots' Q (F0 m (pc + len) ls (st'.map (jv_vl (jv_ad G))))) :
    W p l e R s m args below meth c H locs cells slots Q (F0 m pc ls (st.map (jv_vl (jv_ad G)))) := by
  obtain ⟨hx, hb, hown, hts, hK, hR, hS, hini⟩ := X
  unfold jv_heap at h0
  dsimp only at h0
  have e := jv_len1 hl rfl; subst e
  split at h0
  · rename_i cx hn
    cases h0
    have hck := jv_ckn_ok hn
    simp only [jv_ckn1, Bool.and_eq_true, decide_eq_true_eq] at hck
    obtain ⟨hcx, hw⟩ := hck
    have hKn := hK.1.1 cx _ (jv_cls_ok cx hcx)
    have hi := jv_inst_ok cx hcx
    have hsz := hR.1
    have hc1 : cells + 1 ≤ R.cells := by
      have : (h.2.1 + 1) - h.2.1 = 1 := by omega
      have h9 : cells + ((h.2.1 + 1) - h.2.1) ≤ R.cells := hc
      omega
    have hs1 : slots + jv_fn cx ≤ R.slots := by
      have h9 : slots + ((h.2.2 + jv_fn cx) - h.2.2) ≤ R.slots := hs
      omega
    refine W.newcK (n := jv_fn cx) hx hb hown (hts _ (jv_in_ok hw)) (hts _ (jv_in_ok hi.1)) (hts _ (jv_in_ok hi.2)) rfl hdg hc1 hs1 hKn.2.1 rfl fun H1 kC hkC e1 z1 o1 => ?_
    have hadr : jv_ad G h.2.1 = H.size := by rw [hsz]; exact jv_ad_lt (Nat.lt_of_lt_of_le (Nat.lt_succ_self _) hm)
    have kk := k H1 locs (cells + 1) (slots + jv_fn cx) (by show cells + 1 = cells + ((h.2.1 + 1) - h.2.1); omega) (by show slots + jv_fn cx = slots + ((h.2.2 + jv_fn cx) - h.2.2); omega) (hR.add hm z1 o1 ?_) (jv_grow hS z1 o1)
    · have kk2 : W p l e R s m args below meth c H1 locs (cells + 1) (slots + jv_fn cx) Q (F0 m (pc + 3) ls (.ref (jv_ad G h.2.1) :: st.map (jv_vl (jv_ad G)))) := kk
      rw [hadr] at kk2
      exact kk2
    · rw [← hsz]
      refine ⟨_, jv_cls_ok cx hcx, (u_born (jv_fty cx) hts (jv_ws_in cx hcx) hKn hkC e1 (jv_ty_ok cx hcx)).to ?_⟩
      intro j hj
      simp [vp_V, List.getD_eq_getElem?_getD, show j < jv_fn cx from hj, jv_vl_default]
  · cases h0
set_option maxHeartbeats 8000000 in
set_option maxRecDepth 100000 in
theorem jv_h_newarray {ow : Nat} {ini : Bool} {h h' : jv_H} (X : jv_Cx p s m args meth c cc ow ini D dA G adV L xs h H locs) {t : ArrayType} {len : Nat} {st st' : List Value} (hdg : decode cc pc = .ok (.newarray t, len)) (hl : jv_sw (.newarray t) = true ∨ len = jv_len (.newarray t)) (h0 : jv_heap ow ini (.newarray t) st h = some (st', h')) (hm : h'.2.1 ≤ 1000000) (hc : cells + (h'.2.1 - h.2.1) ≤ R.cells) (hs : slots + (h'.2.2 - h.2.2) ≤ R.slots)
    (k : ∀ (H' : Heap) (locs' : List Loc) (cells' slots' : Nat), cells' = cells + (h'.2.1 - h.2.1) → slots' = slots + (h'.2.2 - h.2.2) → jv_Rep D dA G L xs h' H' → va_S (fun q => G.1 ≤ q) s.heap H' locs' → W p l e R s m args below meth c H' locs' cells' slots' Q (F0 m (pc + len) ls (st'.map (jv_vl (jv_ad G))))) :
    W p l e R s m args below meth c H locs cells slots Q (F0 m pc ls (st.map (jv_vl (jv_ad G)))) := by
  obtain ⟨hx, hb, hown, hts, hK, hR, hS, hini⟩ := X
  unfold jv_heap at h0
  dsimp only at h0
  have e := jv_len1 hl rfl; subst e
  split at h0
  · rename_i n r
    split at h0
    · rename_i hn
      obtain ⟨hn0, hn1⟩ := hn
      have hsz := hR.1
      split at h0
      · cases h0
        have hc1 : cells + 1 ≤ R.cells := by
          have h9 : cells + ((h.2.1 + 1) - h.2.1) ≤ R.cells := hc
          omega
        have hs1 : slots + n.toNatClampNeg ≤ R.slots := by
          have h9 : slots + ((h.2.2 + n.toNatClampNeg) - h.2.2) ≤ R.slots := hs
          omega
        refine va_newaK hx hb (hts _ (jv_in_ok jv_arrI)) rfl hdg rfl hn0 rfl (by show n.toNatClampNeg * 4 ≤ 536870912; omega) hc1 hs1 rfl fun H1 cA e1 z1 o1 hAr hNm => ?_
        have hadr : jv_ad G h.2.1 = H.size := by rw [hsz]; exact jv_ad_lt (Nat.lt_of_lt_of_le (Nat.lt_succ_self _) hm)
        have hcA : cA = dA 0 := Option.some.inj (hNm.symm.trans (hK.1.2 0 _ rfl).2)
        subst hcA
        have kk := k H1 locs (cells + 1) (slots + n.toNatClampNeg) (by show cells + 1 = cells + ((h.2.1 + 1) - h.2.1); omega) (by show slots + n.toNatClampNeg = slots + ((h.2.2 + n.toNatClampNeg) - h.2.2); omega) (hR.add hm z1 o1 (by rw [← hsz]; exact e1)) (jv_grow hS z1 o1)
        have kk2 : W p l e R s m args below meth c H1 locs (cells + 1) (slots + n.toNatClampNeg) Q (F0 m (pc + 2) ls (.ref (jv_ad G h.2.1) :: r.map (jv_vl (jv_ad G)))) := kk
        rw [hadr] at kk2
        exact kk2
      · cases h0
        have hc1 : cells + 1 ≤ R.cells := by
          have h9 : cells + ((h.2.1 + 1) - h.2.1) ≤ R.cells := hc
          omega
        have hs1 : slots + n.toNatClampNeg ≤ R.slots := by
          have h9 : slots + ((h.2.2 + n.toNatClampNeg) - h.2.2) ≤ R.slots := hs
          omega
        refine va_newaK hx hb (hts _ (jv_in_ok jv_arrZ)) rfl hdg rfl hn0 rfl (by show n.toNatClampNeg * 1 ≤ 536870912; omega) hc1 hs1 rfl fun H1 cA e1 z1 o1 hAr hNm => ?_
        have hadr : jv_ad G h.2.1 = H.size := by rw [hsz]; exact jv_ad_lt (Nat.lt_of_lt_of_le (Nat.lt_succ_self _) hm)
        have hcA : cA = dA 1 := Option.some.inj (hNm.symm.trans (hK.1.2 1 _ rfl).2)
        subst hcA
        have kk := k H1 locs (cells + 1) (slots + n.toNatClampNeg) (by show cells + 1 = cells + ((h.2.1 + 1) - h.2.1); omega) (by show slots + n.toNatClampNeg = slots + ((h.2.2 + n.toNatClampNeg) - h.2.2); omega) (hR.add hm z1 o1 (by rw [← hsz]; exact e1)) (jv_grow hS z1 o1)
        have kk2 : W p l e R s m args below meth c H1 locs (cells + 1) (slots + n.toNatClampNeg) Q (F0 m (pc + 2) ls (.ref (jv_ad G h.2.1) :: r.map (jv_vl (jv_ad G)))) := kk
        rw [hadr] at kk2
        exact kk2
      · cases h0
    · cases h0
  · cases h0
set_option maxHeartbeats 8000000 in
set_option maxRecDepth 100000 in
theorem jv_h_anewarray {ow : Nat} {ini : Bool} {h h' : jv_H} (X : jv_Cx p s m args meth c cc ow ini D dA G adV L xs h H locs) {idx : Nat} {len : Nat} {st st' : List Value} (hdg : decode cc pc = .ok (.anewarray idx, len)) (hl : jv_sw (.anewarray idx) = true ∨ len = jv_len (.anewarray idx)) (h0 : jv_heap ow ini (.anewarray idx) st h = some (st', h')) (hm : h'.2.1 ≤ 1000000) (hc : cells + (h'.2.1 - h.2.1) ≤ R.cells) (hs : slots + (h'.2.2 - h.2.2) ≤ R.slots)
    (k : ∀ (H' : Heap) (locs' : List Loc) (cells' slots' : Nat), cells' = cells + (h'.2.1 - h.2.1) → slots' = slots + (h'.2.2 - h.2.2) → jv_Rep D dA G L xs h' H' → va_S (fun q => G.1 ≤ q) s.heap H' locs' → W p l e R s m args below meth c H' locs' cells' slots' Q (F0 m (pc + len) ls (st'.map (jv_vl (jv_ad G))))) :
    W p l e R s m args below meth c H locs cells slots Q (F0 m pc ls (st.map (jv_vl (jv_ad G)))) := by
  obtain ⟨hx, hb, hown, hts, hK, hR, hS, hini⟩ := X
  unfold jv_heap at h0
  dsimp only at h0
  have e := jv_len1 hl rfl; subst e
  split at h0
  · rename_i n r
    split at h0
    · rename_i hn
      obtain ⟨hn0, hn1⟩ := hn
      have hsz := hR.1
      split at h0
      · rename_i cx hnw
        have hck := jv_ckn_ok hnw
        simp only [jv_ckn1, Bool.and_eq_true, decide_eq_true_eq] at hck
        obtain ⟨hcx, hw⟩ := hck
        have key : ∀ (t0 : Nat) (C : String), jv_own cx = C → (jv_tys dA)[t0]? = some (dA t0, .object C) → (Cond.arrayOver (.object C)).before args s = true → some (.ref h.2.1 :: r, jv_add h (.inr (.inl (t0, n.toNatClampNeg, fun _ => none))) n.toNatClampNeg) = some (st', h') → W p l e R s m args below meth c H locs cells slots Q (F0 m pc ls (.int n :: r.map (jv_vl (jv_ad G)))) := by
          intro t0 C hC ht hover h0
          subst hC
          cases h0
          have hc1 : cells + 1 ≤ R.cells := by
            have h9 : cells + ((h.2.1 + 1) - h.2.1) ≤ R.cells := hc
            omega
          have hs1 : slots + n.toNatClampNeg ≤ R.slots := by
            have h9 : slots + ((h.2.2 + n.toNatClampNeg) - h.2.2) ≤ R.slots := hs
            omega
          refine W.anew hx hb hown (hts _ (jv_in_ok hw)) hover rfl hdg rfl hn0 (by omega) hc1 hs1 fun cA kA comp f1 f2 f3 f4 => ?_
          generalize hH1 : H.push ({ cls := cA, slots := Array.replicate n.toNatClampNeg .null, vm := .none } : Cell) = H1
          have z1 : H1.size = H.size + 1 := by rw [← hH1, Array.size_push]
          have e1 : H1[H.size]? = some (arrV cA n.toNatClampNeg (fun _ => .null)) := by rw [← hH1, Array.getElem?_push_size, ← arrV_new]
          have o1 : ∀ q : Nat, q < H.size → H1[q]? = H[q]? := fun q hq => by rw [← hH1, Array.getElem?_push, if_neg (Nat.ne_of_lt hq)]
          have hadr : jv_ad G h.2.1 = H.size := by rw [hsz]; exact jv_ad_lt (Nat.lt_of_lt_of_le (Nat.lt_succ_self _) hm)
          obtain ⟨kA2, comp2, g1, g2, g3, g4⟩ := (hK.1.2 t0 _ ht).2
          have hcA : cA = dA t0 := Option.some.inj (f1.symm.trans g4)
          subst hcA
          have kk := k H1 locs (cells + 1) (slots + n.toNatClampNeg) (by show cells + 1 = cells + ((h.2.1 + 1) - h.2.1); omega) (by show slots + n.toNatClampNeg = slots + ((h.2.2 + n.toNatClampNeg) - h.2.2); omega) (hR.add hm z1 o1 (by rw [← hsz]; exact e1)) (jv_grow hS z1 o1)
          have kk2 : W p l e R s m args below meth c H1 locs (cells + 1) (slots + n.toNatClampNeg) Q (F0 m (pc + 3) ls (.ref (jv_ad G h.2.1) :: r.map (jv_vl (jv_ad G)))) := kk
          rw [hadr] at kk2
          exact kk2
        split at h0
        · rename_i h6
          subst h6
          exact key 2 _ rfl rfl (va_AO.use hK.2.2.2.2.2.2.1) h0
        · split at h0
          · rename_i h5
            subst h5
            exact key 3 _ rfl rfl (va_AO.use hK.2.2.2.2.2.2.2.1) h0
          · cases h0
      · cases h0
    · cases h0
  · cases h0
set_option maxHeartbeats 8000000 in
set_option maxRecDepth 100000 in
theorem jv_h_ldc {ow : Nat} {ini : Bool} {h h' : jv_H} (X : jv_Cx p s m args meth c cc ow ini D dA G adV L xs h H locs) {idx : Nat} {len : Nat} {st st' : List Value} (hdg : decode cc pc = .ok (.ldc idx, len)) (hl : jv_sw (.ldc idx) = true ∨ len = jv_len (.ldc idx)) (h0 : jv_heap ow ini (.ldc idx) st h = some (st', h')) (hm : h'.2.1 ≤ 1000000) (hc : cells + (h'.2.1 - h.2.1) ≤ R.cells) (hs : slots + (h'.2.2 - h.2.2) ≤ R.slots)
    (k : ∀ (H' : Heap) (locs' : List Loc) (cells' slots' : Nat), cells' = cells + (h'.2.1 - h.2.1) → slots' = slots + (h'.2.2 - h.2.2) → jv_Rep D dA G L xs h' H' → va_S (fun q => G.1 ≤ q) s.heap H' locs' → W p l e R s m args below meth c H' locs' cells' slots' Q (F0 m (pc + len) ls (st'.map (jv_vl (jv_ad G))))) :
    W p l e R s m args below meth c H locs cells slots Q (F0 m pc ls (st.map (jv_vl (jv_ad G)))) := by
  obtain ⟨hx, hb, hown, hts, hK, hR, hS, hini⟩ := X
  unfold jv_heap at h0
  dsimp only at h0
  have e := jv_len1 hl rfl; subst e
  split at h0
  · rename_i v hv
    cases h0
    have kk := k H locs cells slots (by omega) (by omega) hR hS
    have hck := jv_ckl_ok hv
    cases v with
    | int x => exact W.ldc hx hb hown (hts _ (jv_in_ok hck)) rfl hdg kk
    | ref a =>
      unfold jv_ckl1 at hck
      dsimp only at hck
      cases htx : jv_tix a with
      | none => rw [htx] at hck; cases hck
      | some ix =>
        rw [htx] at hck
        dsimp only at hck
        obtain ⟨hi20, rfl⟩ := jv_tix_eq htx
        cases hst : jv_str[ix]? with
        | none => rw [hst] at hck; cases hck
        | some q =>
          obtain ⟨own, idx2, tx⟩ := q
          rw [hst] at hck
          dsimp only at hck
          obtain ⟨h4, h5⟩ := of_decide_eq_true hck
          subst h4
          subst h5
          have hvk := hK.2.2.2.2.2.1 _ _ hst
          have kk2 : W p l e R s m args below meth c H locs cells slots Q (F0 m (pc + 2) ls (.ref (jv_ad G (1000001 + ix)) :: st.map (jv_vl (jv_ad G)))) := kk
          rw [jv_ad_txt] at kk2
          exact va_ldcS hx hb hown hvk hdg kk2
    | long x => cases hck
    | float x => cases hck
    | double x => cases hck
    | null => cases hck
    | retAddr x => cases hck
  · cases h0
set_option maxHeartbeats 8000000 in
theorem jv_heap_ok (hx : p.tables.exec = Jvm.exec) (hb : c.code = cc) {ow : Nat} {ini : Bool} (hown : s.vm.findClass (jv_own ow) = some m.cls) (hts : ∀ w ∈ jv_T, w.before args s = true) (hK : jv_Kn D dA G adV L xs s) {h h' : jv_H} (hR : jv_Rep D dA G L xs h H) (hS : va_S (fun q => G.1 ≤ q) s.heap H locs) (hini : ini = true → meth.name = "<init>")
    {i : Instr} {len : Nat} {st st' : List Value} (hdg : decode cc pc = .ok (i, len)) (hl : jv_sw i = true ∨ len = jv_len i) (h0 : jv_heap ow ini i st h = some (st', h')) (hm : h'.2.1 ≤ 1000000) (hc : cells + (h'.2.1 - h.2.1) ≤ R.cells) (hs : slots + (h'.2.2 - h.2.2) ≤ R.slots)
    (k : ∀ (H' : Heap) (locs' : List Loc) (cells' slots' : Nat), cells' = cells + (h'.2.1 - h.2.1) → slots' = slots + (h'.2.2 - h.2.2) → jv_Rep D dA G L xs h' H' → va_S (fun q => G.1 ≤ q) s.heap H' locs' → W p l e R s m args below meth c H' locs' cells' slots' Q (F0 m (pc + len) ls (st'.map (jv_vl (jv_ad G))))) :
    W p l e R s m args below meth c H locs cells slots Q (F0 m pc ls (st.map (jv_vl (jv_ad G)))) := by
  have X : jv_Cx p s m args meth c cc ow ini D dA G adV L xs h H locs := ⟨hx, hb, hown, hts, hK, hR, hS, hini⟩
  have h00 := h0
  unfold jv_heap at h0
  split at h0
  · exact jv_h_getfield X hdg hl h00 hm hc hs k
  · exact jv_h_putfield X hdg hl h00 hm hc hs k
  · exact jv_h_iaload X hdg hl h00 hm hc hs k
  · exact jv_h_baload X hdg hl h00 hm hc hs k
  · exact jv_h_aaload X hdg hl h00 hm hc hs k
  · exact jv_h_iastore X hdg hl h00 hm hc hs k
  · exact jv_h_bastore X hdg hl h00 hm hc hs k
  · exact jv_h_aastore X hdg hl h00 hm hc hs k
  · exact jv_h_arraylength X hdg hl h00 hm hc hs k
  · exact jv_h_new X hdg hl h00 hm hc hs k
  · exact jv_h_newarray X hdg hl h00 hm hc hs k
  · exact jv_h_anewarray X hdg hl h00 hm hc hs k
  · exact jv_h_ldc X hdg hl h00 hm hc hs k
  · cases h0
end JHQ
end
section
/-! THE J MACHINE IS RIGHT: methods, calls, by induction on the fuel -/
theorem jv_heap_mono {ow : Nat} {ini : Bool} {i : Instr} {st st' : List Value} {h h' : jv_H} (h0 : jv_heap ow ini i st h = some (st', h')) : h.2.1 ≤ h'.2.1 ∧ h.2.2 ≤ h'.2.2 := by
  unfold jv_heap at h0
  split at h0
  case h_2 =>
    obtain ⟨v, a, cx, kf, fs, rfl, hf, ha, he, hkl, hn, hfi, hfin, rfl⟩ := jv_set_eq h0
    exact ⟨Nat.le_refl _, Nat.le_refl _⟩
  all_goals (repeat' split at h0)
  all_goals first
    | (cases h0; done)
    | (cases h0; exact ⟨Nat.le_refl _, Nat.le_refl _⟩)
    | (cases h0; exact ⟨Nat.le_succ _, Nat.le_add_right _ _⟩)
theorem jv_step_mono {ow : Nat} {ini : Bool} {i : Instr} {len pc pc' : Nat} {L L' : List (Option Value)} {st st' : List Value} {h h' : jv_H} (h0 : jv_step ow ini i len pc L st h = some (pc', L', st', h')) : h.2.1 ≤ h'.2.1 ∧ h.2.2 ≤ h'.2.2 := by
  unfold jv_step at h0
  split at h0
  · cases h0; exact ⟨Nat.le_refl _, Nat.le_refl _⟩
  · split at h0
    · cases h0; exact ⟨Nat.le_refl _, Nat.le_refl _⟩
    · split at h0
      · cases h0; exact ⟨Nat.le_refl _, Nat.le_refl _⟩
      · split at h0
        · cases h0; exact ⟨Nat.le_refl _, Nat.le_refl _⟩
        · split at h0
          · rename_i hh
            cases h0; exact jv_heap_mono hh
          · cases h0
/-- the J machine's one step, what it can be -/
theorem jv_run_inv {n y pc : Nat} {L : List (Option Value)} {st : List Value} {h h' : jv_H} {r : Option Value} (h0 : jv_run (n + 1) y pc L st h = some (r, h')) :
    ∃ (ow kd na mL fr lo : Nat) (i : Instr) (len : Nat), jv_inf y = some (ow, kd, na, mL, fr, lo) ∧ jv_code y pc = some (i, len) ∧
      ((jv_ret (jv_ym y).2.2 i st = some r ∧ h' = h) ∨
       (∃ (pc' : Nat) (L' : List (Option Value)) (st' : List Value) (h1 : jv_H), jv_step ow (decide (kd = 2)) i len pc L st h = some (pc', L', st', h1) ∧ jv_run n y pc' L' st' h1 = some (r, h')) ∨
       (∃ (ck idx z na' ne : Nat), jv_isC i = some (ck, idx) ∧ jv_cal ow idx = some (z, na', ne) ∧
         ((z = 900 ∧ ∃ (a : Nat) (rst : List Value), st = .ref a :: rst ∧ ck = 2 ∧ 1 ≤ fr ∧ jv_wd rst + 12 ≤ lo ∧ jv_run n y (pc + 3) L rst h = some (r, h')) ∨
          (z = 901 ∧ ∃ st' : List Value, jv_strlen st = some st' ∧ ck = 1 ∧ 2 ≤ fr ∧ 40 ≤ lo ∧ jv_wd (st.drop 1) ≤ 8 ∧ jv_run n y (pc + 3) L st' h = some (r, h')) ∨
          (z = 902 ∧ ∃ st' : List Value, jv_strat st = some st' ∧ ck = 1 ∧ 6 ≤ fr ∧ 120 ≤ lo ∧ jv_wd (st.drop 2) ≤ 8 ∧ jv_run n y (pc + 3) L st' h = some (r, h')) ∨
          (z ≠ 900 ∧ z ≠ 901 ∧ z ≠ 902 ∧ ∃ (q : Nat × Nat × Nat × Nat × Nat × Nat) (r1 : Option Value) (h1 : jv_H), jv_inf z = some q ∧ jv_may ck fr lo q na' st h = true ∧
            jv_run n z 0 ((st.take na').reverse.map some ++ List.replicate (q.2.2.2.1 - na') none) [] h = some (r1, h1) ∧ jv_run n y (pc + 3) L (r1.toList ++ st.drop na') h1 = some (r, h'))))) := by
  unfold jv_run at h0
  split at h0
  · cases h0
  · rename_i ow kd na mL fr lo hinf
    split at h0
    · cases h0
    · rename_i i len hcode
      refine ⟨ow, kd, na, mL, fr, lo, i, len, hinf, hcode, ?_⟩
      split at h0
      · rename_i r0 hr
        cases h0
        exact Or.inl ⟨hr, rfl⟩
      · split at h0
        · split at h0
          · rename_i hs
            exact Or.inr (Or.inl ⟨_, _, _, _, hs, h0⟩)
          · cases h0
        · rename_i ck idx hc
          split at h0
          · cases h0
          · rename_i z na' ne hcal
            refine Or.inr (Or.inr ⟨ck, idx, z, na', ne, hc, hcal, ?_⟩)
            split at h0
            · rename_i hz
              split at h0
              · split at h0
                · rename_i hq
                  exact Or.inl ⟨hz, _, _, rfl, hq.1, hq.2.1, hq.2.2, h0⟩
                · cases h0
              · cases h0
            · rename_i hz0
              split at h0
              · rename_i hz
                split at h0
                · rename_i st' hst
                  split at h0
                  · rename_i hq
                    exact Or.inr (Or.inl ⟨hz, st', hst, hq.1, hq.2.1, hq.2.2.1, hq.2.2.2, h0⟩)
                  · cases h0
                · cases h0
              · rename_i hz1
                split at h0
                · rename_i hz
                  split at h0
                  · rename_i st' hst
                    split at h0
                    · rename_i hq
                      exact Or.inr (Or.inr (Or.inl ⟨hz, st', hst, hq.1, hq.2.1, hq.2.2.1, hq.2.2.2, h0⟩))
                    · cases h0
                  · cases h0
                · rename_i hz2
                  split at h0
                  · cases h0
                  · rename_i q hq
                    split at h0
                    · rename_i hmay
                      split at h0
                      · rename_i r1 h1 hrun
                        exact Or.inr (Or.inr (Or.inr ⟨hz0, hz1, hz2, q, r1, h1, hq, hmay, hrun, h0⟩))
                      · cases h0
                    · cases h0
theorem jv_run_mono : ∀ (n : Nat) {y pc : Nat} {L : List (Option Value)} {st : List Value} {h h' : jv_H} {r : Option Value}, jv_run n y pc L st h = some (r, h') → h.2.1 ≤ h'.2.1 ∧ h.2.2 ≤ h'.2.2
  | 0, _, _, _, _, _, _, _, h0 => by cases h0
  | n + 1, y, pc, L, st, h, h', r, h0 => by
    obtain ⟨ow, kd, na, mL, fr, lo, i, len, -, -, ⟨-, rfl⟩ | ⟨pc', L', st', h1, hs, hr⟩ | ⟨ck, idx, z, na', ne, -, -, hz⟩⟩ := jv_run_inv h0
    · exact ⟨Nat.le_refl _, Nat.le_refl _⟩
    · have a := jv_step_mono hs
      have b := jv_run_mono n hr
      omega
    · rcases hz with ⟨-, a, rst, -, -, -, -, hr⟩ | ⟨-, st', -, -, -, -, -, hr⟩ | ⟨-, st', -, -, -, -, -, hr⟩ | ⟨-, -, -, q, r1, h1, -, -, hr1, hr⟩
      · exact jv_run_mono n hr
      · exact jv_run_mono n hr
      · exact jv_run_mono n hr
      · have a := jv_run_mono n hr1
        have b := jv_run_mono n hr
        omega
def jv_Pc (D : va_G) (dA : Nat → ClassId) (G : jv_G) (adV : Nat → Nat) (L : Nat) (xs : Nat → Int32) (a : List Value) (h : jv_H) : Array Value → State → Prop := fun v U => v = (a.map (jv_vl (jv_ad G))).toArray ∧ jv_Rep D dA G L xs h U.heap ∧ jv_Kn D dA G adV L xs U
def jv_Qc (D : va_G) (dA : Nat → ClassId) (G : jv_G) (L : Nat) (xs : Nat → Int32) (r : Option Value) (h' : jv_H) : Array Value → State → Outcome → State → Prop := fun _ st o t => o = .returned (r.map (jv_vl (jv_ad G))) ∧ jv_Rep D dA G L xs h' t.heap ∧ va_F (fun q => G.1 ≤ q) st t
theorem jv_nests_warm {s U : State} (hW : s.WarmedH U.vm) : ∀ w ∈ jv_nests, va_Nw w s → va_Nw w U := by
  intro w hw h
  simp only [jv_nests, List.mem_cons, List.not_mem_nil, or_false] at hw
  rcases hw with rfl | rfl | rfl | rfl | rfl <;> exact va_Nw.warmM hW h
theorem jv_nests_same {u U : State} (hv : u.vm = U.vm) : ∀ w ∈ jv_nests, va_Nw w u → va_Nw w U := by
  intro w hw h
  simp only [jv_nests, List.mem_cons, List.not_mem_nil, or_false] at hw
  rcases hw with rfl | rfl | rfl | rfl | rfl <;> exact va_Nw.same rfl hv h
theorem jv_Kn.same {D : va_G} {dA : Nat → ClassId} {G : jv_G} {adV : Nat → Nat} {L : Nat} {xs : Nat → Int32} {u U : State} (hv : U.vm = u.vm) (hh : U.heap = u.heap) (h : jv_Kn D dA G adV L xs u) : jv_Kn D dA G adV L xs U := by
  obtain ⟨h1, h2, h3, h4, h5, h6, k1, k2, k3, k4, v, hv0, k5⟩ := h
  have ha : u.vm.Alike U.vm := by rw [hv]; exact Vm.Alike.refl u.vm
  refine ⟨va_K.moved ha h1, ?_, h3, by rw [hh]; exact h4, ?_, fun i q hq => vk_R.same hv (h6 i q hq), k1.moved ha, k2.moved ha, fun w hw => jv_nests_same hv.symm w hw (k3 w hw), ?_, v, hv0, ?_⟩
  · rw [hh]; exact va_X.moved ha h2
  · rw [hh]; exact vk_S.moved ha h5
  · rw [hh]; exact va_Z.moved ha k4
  · rw [hh]; exact va_Z.moved ha k5
theorem jv_Kn.next {D : va_G} {dA : Nat → ClassId} {G : jv_G} {adV : Nat → Nat} {L : Nat} {xs : Nat → Int32} {s U : State} {locs : List Loc} (h : jv_Kn D dA G adV L xs s) (hS : va_S (fun q => G.1 ≤ q) s.heap U.heap locs) (hW : s.WarmedH U.vm) : jv_Kn D dA G adV L xs U := by
  obtain ⟨h1, h2, h3, h4, h5, h6, k1, k2, k3, k4, v, hv0, k5⟩ := h
  exact ⟨va_K.moved hW.alike h1, (h2.kept (hS.2.1 G.2.1 (Nat.lt_of_lt_of_le h3 h4) (Nat.not_le.mpr h3))).moved hW.alike, h3, Nat.le_trans h4 hS.1, (h5.kept hS.2.1).moved hW.alike, fun i q hq => vk_R.warm hW (h6 i q hq), k1.moved hW.alike, k2.moved hW.alike, fun w hw => jv_nests_warm hW w hw (k3 w hw), (k4.kept hS.2.1).moved hW.alike, v, hv0, (k5.kept hS.2.1).moved hW.alike⟩
theorem jv_blind {D : va_G} {dA : Nat → ClassId} {G : jv_G} {adV : Nat → Nat} {L : Nat} {xs : Nat → Int32} {a : List Value} {h : jv_H} : FrameBlind (jv_Pc D dA G adV L xs a h) := by
  intro v U g mk hp
  exact ⟨hp.1, hp.2.1, jv_Kn.same (u := U) (U := U.calling g mk v) rfl rfl hp.2.2⟩
theorem jv_wd_map (ad : Nat → Nat) (st : List Value) : ((st.map (jv_vl ad)).map fun v => v.category).sum = jv_wd st := by
  unfold jv_wd
  rw [List.map_map]
  congr 1
  apply List.map_congr_left
  intro v _
  exact jv_vl_cat ad v
theorem jv_wd_one : ∀ (u : List Value), jv_wd u = u.length → ∀ v ∈ u, v.category = 1
  | [], _, v, hv => by cases hv
  | w :: u, h, v, hv => by
    have hge : ∀ u : List Value, u.length ≤ jv_wd u := by
      intro u
      induction u with
      | nil => exact Nat.le_refl _
      | cons x t ih =>
        have h2 : jv_wd (x :: t) = x.category + jv_wd t := by simp [jv_wd]
        rcases lv_cat x with h3 | h3 <;> simp only [List.length_cons] <;> omega
    have h1 : jv_wd (w :: u) = w.category + jv_wd u := by simp [jv_wd]
    have h2 := hge u
    simp only [List.length_cons] at h
    rcases lv_cat w with h3 | h3
    · rcases List.mem_cons.mp hv with rfl | hv
      · exact h3
      · exact jv_wd_one u (by omega) v hv
    · omega
theorem jv_sl : ∀ (vs : List Value), (∀ v ∈ vs, v.category = 1) → lg_sl vs = vs.map Slot.val
  | [], _ => rfl
  | v :: vs, h => by
    have h1 : ¬ v.category = 2 := by rw [h v List.mem_cons_self]; decide
    have h2 := jv_sl vs (fun w hw => h w (List.mem_cons_of_mem _ hw))
    unfold lg_sl at h2 ⊢
    rw [List.flatMap_cons, h2, if_neg h1]
    rfl
theorem jv_args_mem : ∀ (vs : List Value) (k i : Nat) (v : Value), (∀ w ∈ vs, w.category = 1) → vs[i]? = some v → (k + i, v) ∈ lv_args k vs
  | [], k, i, v, _, h => by simp at h
  | w :: vs, k, i, v, hc, h => by
    have h1 : ¬ w.category = 2 := by rw [hc w List.mem_cons_self]; decide
    unfold lv_args
    rw [if_neg h1]
    cases i with
    | zero =>
      rw [List.getElem?_cons_zero] at h
      cases h
      exact List.mem_cons_self
    | succ i =>
      rw [List.getElem?_cons_succ] at h
      have h2 := jv_args_mem vs (k + 1) i v (fun x hx => hc x (List.mem_cons_of_mem _ hx)) h
      rw [show k + (i + 1) = k + 1 + i by omega]
      exact List.mem_cons_of_mem _ h2
/-- a method's first locals -/
theorem jv_entry (ad : Nat → Nat) (a : List Value) (mL : Nat) (hc : ∀ v ∈ a, v.category = 1) (hn : a.length ≤ mL) : jv_Lc ad ((lg_sl (a.map (jv_vl ad)) ++ List.replicate (mL - (lg_sl (a.map (jv_vl ad))).length) Slot.unset).toArray) mL (a.map some ++ List.replicate (mL - a.length) none) := by
  have hc2 : ∀ v ∈ a.map (jv_vl ad), v.category = 1 := by
    intro v hv
    obtain ⟨w, hw, rfl⟩ := List.mem_map.mp hv
    rw [jv_vl_cat]
    exact hc w hw
  have hsl := jv_sl _ hc2
  have hlen : (lg_sl (a.map (jv_vl ad))).length = a.length := by rw [hsl]; simp
  have hE := lv_entry (a.map (jv_vl ad)) (n := mL) (by omega)
  refine ⟨hE.1, by simp; omega, hE.2.1, fun i v hv => ?_⟩
  have hi : a[i]? = some v := by
    by_cases hlt : i < a.length
    · rw [List.getElem?_append_left (by simpa using hlt), List.getElem?_map] at hv
      cases ha : a[i]? with
      | none => rw [ha] at hv; cases hv
      | some w => rw [ha] at hv; cases hv; rfl
    · rw [List.getElem?_append_right (by simp; omega)] at hv
      have h3 := List.mem_of_getElem? hv
      have h4 := List.eq_of_mem_replicate h3
      cases h4
  have h5 := jv_args_mem (a.map (jv_vl ad)) 0 i (jv_vl ad v) hc2 (by rw [List.getElem?_map, hi]; rfl)
  rw [Nat.zero_add] at h5
  exact hE.2.2 (i, jv_vl ad v) h5
end
section
/-! THE J MACHINE IS RIGHT: the induction -/
section JSM
variable {p : Program} {l : Launch} {e : Env} {R : Room} {s : State} {m : MethodId} {args : Array Value} {below : List Frame} {meth : Method} {c : Code} {H : Heap} {locs : List Loc} {cells slots : Nat} {Q : State → Prop}
variable {cc : ByteArray} {pc nL : Nat} {ls : Array Slot} {D : va_G} {dA : Nat → ClassId} {G : jv_G} {adV : Nat → Nat} {L : Nat} {xs : Nat → Int32}
theorem jv_back {mc ms : Nat} {r : Option Value} {h' : jv_H} {st0 rest : List Value} {a : Array Value} (hr : va_Run p l e R s m args below meth c H locs cells slots mc ms (F0 m pc ls st0) rest (jv_Qc D dA G L xs r h' a) (fun q => G.1 ≤ q)) (hS : va_S (fun q => G.1 ≤ q) s.heap H locs)
    (kk : ∀ (H1 : Heap) (locs1 : List Loc), jv_Rep D dA G L xs h' H1 → va_S (fun q => G.1 ≤ q) s.heap H1 locs1 → W p l e R s m args below meth c H1 locs1 (cells + mc) (slots + ms) Q (F0 m (pc + 3) ls ((r.map (jv_vl (jv_ad G))).toList ++ rest))) : W p l e R s m args below meth c H locs cells slots Q (F0 m pc ls st0) := by
  intro T hT X
  obtain ⟨v, st₀, t, T', L1, h0, X', hL, e1, e2, ⟨hv, hRep, hz, hk⟩, st⟩ := hr T hT X
  cases hv
  rw [h0] at hz hk
  obtain ⟨t2, a1, b1⟩ := kk T'.heap (locs ++ L1) (by rw [e1]; exact hRep) ⟨Nat.le_trans hS.1 (by rw [e1]; exact hz), fun q h1 h2 => by rw [e1, hk q (Nat.lt_of_lt_of_le h1 hS.1) h2]; exact hS.2.1 q h1 h2, fun q hq => by
      rcases List.mem_append.mp hq with h | h
      · exact hS.2.2 q h
      · exact hL q h⟩ T' rfl X'
  exact ⟨t2, st t2 a1, b1⟩
set_option maxHeartbeats 4000000 in
theorem jv_step_ok (hx : p.tables.exec = Jvm.exec) (hb : c.code = cc) {ow : Nat} {ini : Bool} (hown : s.vm.findClass (jv_own ow) = some m.cls) (hts : ∀ w ∈ jv_T, w.before args s = true) (hK : jv_Kn D dA G adV L xs s) {h h' : jv_H} (hR : jv_Rep D dA G L xs h H) (hS : va_S (fun q => G.1 ≤ q) s.heap H locs) (hini : ini = true → meth.name = "<init>")
    {i : Instr} {len pc' : Nat} {Lv Lv' : List (Option Value)} {st st' : List Value} (hL : jv_Lc (jv_ad G) ls nL Lv) (hdg : decode cc pc = .ok (i, len)) (hl : jv_sw i = true ∨ len = jv_len i) (h0 : jv_step ow ini i len pc Lv st h = some (pc', Lv', st', h')) (hm : h'.2.1 ≤ 1000000) (hc : cells + (h'.2.1 - h.2.1) ≤ R.cells) (hs : slots + (h'.2.2 - h.2.2) ≤ R.slots)
    (k : ∀ (H' : Heap) (locs' : List Loc) (ls' : Array Slot) (cells' slots' : Nat), cells' = cells + (h'.2.1 - h.2.1) → slots' = slots + (h'.2.2 - h.2.2) → jv_Rep D dA G L xs h' H' → va_S (fun q => G.1 ≤ q) s.heap H' locs' → jv_Lc (jv_ad G) ls' nL Lv' → W p l e R s m args below meth c H' locs' cells' slots' Q (F0 m pc' ls' (st'.map (jv_vl (jv_ad G))))) :
    W p l e R s m args below meth c H locs cells slots Q (F0 m pc ls (st.map (jv_vl (jv_ad G)))) := by
  unfold jv_step at h0
  split at h0
  · rename_i h1
    cases h0
    exact jv_pure_ok hx hb hdg hl h1 (k H locs ls cells slots (by omega) (by omega) hR hS hL)
  · split at h0
    · rename_i h1
      cases h0
      exact jv_ld_ok hx hb hdg hl hL h1 (k H locs ls cells slots (by omega) (by omega) hR hS hL)
    · split at h0
      · rename_i h1
        cases h0
        exact jv_br_ok hx hb hdg hl h1 (k H locs ls cells slots (by omega) (by omega) hR hS hL)
      · split at h0
        · rename_i h1
          cases h0
          exact jv_sto_ok hx hb hdg hl hL h1 (fun ls' hL' => k H locs ls' cells slots (by omega) (by omega) hR hS hL')
        · split at h0
          · rename_i h1
            cases h0
            exact jv_heap_ok hx hb hown hts hK hR hS hini hdg hl h1 hm hc hs (fun H' locs' cells' slots' e1 e2 hR' hS' => k H' locs' ls cells' slots' e1 e2 hR' hS' hL)
          · cases h0
theorem jv_isC_eq {i : Instr} {ck idx : Nat} (h : jv_isC i = some (ck, idx)) : (ck = 0 ∧ i = .invokestatic idx) ∨ (ck = 1 ∧ i = .invokevirtual idx) ∨ (ck = 2 ∧ i = .invokespecial idx) := by
  unfold jv_isC at h
  split at h
  · cases h; exact Or.inl ⟨rfl, rfl⟩
  · cases h; exact Or.inr (Or.inl ⟨rfl, rfl⟩)
  · cases h; exact Or.inr (Or.inr ⟨rfl, rfl⟩)
  · cases h
/-- what the tables say of method z -/
theorem jv_ckm_eq {z ow kd na mL fr lo : Nat} (hz : z < 271) (hq : jv_inf z = some (ow, kd, na, mL, fr, lo)) :
    Cond.code (jv_ym z).1 (jv_ym z).2.1 mL (jv_ym z).2.2 ∈ jv_T ∧ Cond.initialized (jv_ym z).1.cls ∈ jv_T ∧ plainFor (jv_ym z).1 = true ∧ (jv_ym z).1.cls = jv_own ow ∧
    ((jv_ym z).1.cls ≠ "java/lang/invoke/MethodHandle" ∧ (jv_ym z).1.cls ≠ "java/lang/invoke/VarHandle" ∧ (parseMethodDescriptor (jv_ym z).1.desc).map (fun d => d.parameters.length) = some (if kd = 0 then na else na - 1)) ∧ na ≤ mL ∧ (kd ≠ 0 → 1 ≤ na) ∧
    (kd = 0 → Cond.static (jv_ym z).1 ∈ jv_T) ∧ (kd = 1 → Cond.instanceMethod (jv_ym z).1 ∈ jv_T ∧ Cond.selects (jv_ym z).1.cls (jv_ym z).1 (jv_ym z).1 ∈ jv_T) ∧ (kd ≠ 0 → kd ≠ 1 → kd = 2 ∧ Cond.instanceMethod (jv_ym z).1 ∈ jv_T ∧ (jv_ym z).1.name = "<init>" ∧ (jv_ym z).2.2 = none) := by
  have h := jv_ckm_ok z hz
  unfold jv_ckm at h
  rw [hq] at h
  split at h
  · rename_i ow1 kd1 na1 mL1 fr1 lo1 a b c1 d he hhm
    cases he
    simp only [Bool.and_eq_true, decide_eq_true_eq] at h
    obtain ⟨⟨⟨⟨h1, h2⟩, h3⟩, h4, h5, h6, h7⟩, h8⟩ := h
    refine ⟨jv_in_ok h1, jv_in_ok h2, h3, h4, h5, h6, h7, fun hk => ?_, fun hk => ?_, fun hk0 hk1 => ?_⟩
    · subst hk
      exact jv_in_ok h8
    · subst hk
      simp only [Bool.and_eq_true] at h8
      exact ⟨jv_in_ok h8.1, jv_in_ok h8.2⟩
    · split at h8
      · exact absurd rfl hk0
      · exact absurd rfl hk1
      · simp only [Bool.and_eq_true, decide_eq_true_eq] at h8
        exact ⟨h8.2.2.2, jv_in_ok h8.1, h8.2.1, h8.2.2.1⟩
  · cases h
theorem jv_good {w : Cond} (hw : w ∈ jv_T) : GoodIn jv_T (w :: jv_T) := by
  have key : ∀ v ∈ jv_T, v ∈ jv_T ∧ ((v.onTables && v.keeps) = true ∨ ∃ ty, v = .arrayClass ty) := fun v hv => ⟨hv, good_of_word (List.mem_filter.mp hv).2⟩
  intro v hv
  rcases List.mem_cons.mp hv with rfl | hv
  · exact key _ hw
  · exact key _ hv
set_option maxHeartbeats 8000000 in
theorem jv_call_ok {ow fr lo : Nat} (S : CallFix p m c cc nL s args jv_T (jv_own ow)) (hK : jv_Kn D dA G adV L xs s) {h h1 : jv_H} (hR : jv_Rep D dA G L xs h H) (hS : va_S (fun q => G.1 ≤ q) s.heap H locs) {z ow2 kd2 na2 mL2 fr2 lo2 na ne ck idx len : Nat} {i : Instr} {st : List Value} {r1 : Option Value}
    (hq : jv_inf z = some (ow2, kd2, na2, mL2, fr2, lo2)) (hcal : jv_cal ow idx = some (z, na, ne)) (hz0 : z ≠ 900) (hz1 : z ≠ 901) (hz2 : z ≠ 902) (hdg : decode cc pc = .ok (i, len)) (hci : jv_isC i = some (ck, idx)) (hl : jv_sw i = true ∨ len = jv_len i) (hmay : jv_may ck fr lo (ow2, kd2, na2, mL2, fr2, lo2) na st h = true) (hfr : fr ≤ R.frames) (hlo : lo ≤ R.locals) (hsz : ls.size = nL) {mc ms : Nat}
    (hM : Met l (jv_ym z).1 (Cond.code (jv_ym z).1 (jv_ym z).2.1 mL2 (jv_ym z).2.2 :: jv_T) ({ frames := fr2, cells := mc, slots := ms, locals := lo2 } : Room) (jv_Pc D dA G adV L xs (st.take na).reverse h) (jv_Qc D dA G L xs r1 h1) mc ms (fun q => G.1 ≤ q)) (hf : cells + mc ≤ R.cells ∧ slots + ms ≤ R.slots)
    (kk : ∀ (H1 : Heap) (locs1 : List Loc), jv_Rep D dA G L xs h1 H1 → va_S (fun q => G.1 ≤ q) s.heap H1 locs1 → W p l e R s m args below meth c H1 locs1 (cells + mc) (slots + ms) Q (F0 m (pc + 3) ls ((r1.toList ++ st.drop na).map (jv_vl (jv_ad G))))) :
    W p l e R s m args below meth c H locs cells slots Q (F0 m pc ls (st.map (jv_vl (jv_ad G)))) := by
  have hckc := jv_ckc_ok hcal
  unfold jv_ckc1 at hckc
  rw [if_neg hz0, if_neg hz1, if_neg hz2, hq] at hckc
  simp only [Bool.and_eq_true, decide_eq_true_eq] at hckc
  obtain ⟨⟨hna, hz⟩, hlink⟩ := hckc
  subst hna
  obtain ⟨w1, w2, -, w4, w5, w6, w7, w8, w9, w10⟩ := jv_ckm_eq hz hq
  have hts := S.2.2.2.2
  unfold jv_may at hmay
  simp only [Bool.and_eq_true, decide_eq_true_eq] at hmay
  obtain ⟨⟨hk, hn1, hn2, hn3, hf1, hf2, hw1, hw2⟩, hrec⟩ := hmay
  subst hk
  have hRm : fr2 + 1 ≤ R.frames ∧ 8 + (mL2 + 11) + lo2 ≤ R.locals := ⟨by omega, by omega⟩
  have hst : st.map (jv_vl (jv_ad G)) = (st.take na2).map (jv_vl (jv_ad G)) ++ (st.drop na2).map (jv_vl (jv_ad G)) := by rw [← List.map_append, List.take_append_drop]
  have hu : (st.take na2).length = na2 := by rw [List.length_take]; omega
  have hWd : ∀ g : JFrame, g.monitorRoom = 0 → 2 * g.monitorRoom + (((st.drop na2).map (jv_vl (jv_ad G))).map fun v => v.category).sum ≤ 8 := by
    intro g hg
    rw [hg, jv_wd_map]
    omega
  have hpre : ∀ U : State, U.heap = H → s.WarmedH U.vm → ∀ v : Array Value, v = ((st.take na2).reverse.map (jv_vl (jv_ad G))).toArray → jv_Pc D dA G adV L xs (st.take na2).reverse h v U := by
    intro U hU hW v hv
    refine ⟨hv, by rw [hU]; exact hR, hK.next (by rw [hU]; exact hS) hW⟩
  have kk2 : ∀ (H1 : Heap) (locs1 : List Loc), jv_Rep D dA G L xs h1 H1 → va_S (fun q => G.1 ≤ q) s.heap H1 locs1 → W p l e R s m args below meth c H1 locs1 (cells + mc) (slots + ms) Q (F0 m (pc + 3) ls ((r1.map (jv_vl (jv_ad G))).toList ++ (st.drop na2).map (jv_vl (jv_ad G)))) := by
    intro H1 locs1 a1 a2
    have a3 := kk H1 locs1 a1 a2
    rw [List.map_append] at a3
    cases r1 <;> exact a3
  rcases jv_isC_eq hci with ⟨rfl, rfl⟩ | ⟨rfl, rfl⟩ | ⟨rfl, rfl⟩
  · -- static
    have e := jv_len1 hl rfl; subst e
    have hstack : (F0 m pc ls (st.map (jv_vl (jv_ad G)))).stack = ((st.take na2).reverse.map (jv_vl (jv_ad G))).reverse ++ (st.drop na2).map (jv_vl (jv_ad G)) := by
      show st.map (jv_vl (jv_ad G)) = _
      rw [hst]
      simp
    have hps : PreS s H (jv_Pc D dA G adV L xs (st.take na2).reverse h) ((st.take na2).reverse.map (jv_vl (jv_ad G))) := ⟨jv_blind, fun U hU hW => hpre U hU hW _ rfl⟩
    rw [if_pos rfl] at w5
    by_cases hne : ne = 0
    · rw [if_pos hne] at hlink
      exact jv_back (va_runS S hM ⟨callB_of na2 hts (jv_good w1) rfl rfl rfl (hts _ w2) (hts _ (jv_in_ok hlink)) w5 hRm, hts _ (w8 rfl)⟩ hps rfl (by rw [List.length_map, List.length_reverse]; exact hu) hsz hstack (hWd _ rfl) hdg hf) hS kk2
    · rw [if_neg hne, decide_eq_true_eq] at hlink
      exact jv_back (va_runSN S hM ⟨va_cnB na2 hts (jv_good w1) rfl rfl rfl (hK.2.2.2.2.2.2.2.2.1 _ hlink) (hts _ w2) w5 hRm, hts _ (w8 rfl), trivial⟩ hps rfl (by rw [List.length_map, List.length_reverse]; exact hu) hsz hstack (hWd _ rfl) hdg hf) hS kk2
  · -- virtual
    have e := jv_len1 hl rfl; subst e
    rw [if_neg (by decide)] at w5
    have hpos := w7 (by decide)
    split at hrec
    · rename_i h0; cases h0
    · split at hrec
      · rename_i a hlast
        simp only [Bool.and_eq_true, decide_eq_true_eq] at hrec
        obtain ⟨ha, hrec⟩ := hrec
        split at hrec
        · rename_i dcl fs hcell
          rw [decide_eq_true_eq] at hrec
          have hdec := List.getLast?_eq_some_iff.mp hlast
          obtain ⟨u0, hu0⟩ := hdec
          have hcl9 : ow2 < 9 := by
            rcases Nat.lt_or_ge ow2 9 with q | q
            · exact q
            · exfalso
              rw [hrec] at hcell
              have h9 := hR.2.2.1 a _ (hR.at ha hcell)
              obtain ⟨r9, h10, -⟩ := h9
              have : vwCl[ow2]? = none := List.getElem?_eq_none (by show 9 ≤ ow2; exact q)
              rw [this] at h10
              cases h10
          subst hrec
          have hArr : (Value.ref (jv_ad G a) :: u0.reverse.map (jv_vl (jv_ad G))) = (st.take na2).reverse.map (jv_vl (jv_ad G)) := by rw [hu0]; simp [jv_vl]
          have hlen0 : u0.length = na2 - 1 := by
            have : (u0 ++ [Value.ref a]).length = na2 := by rw [← hu0]; exact hu
            simp only [List.length_append, List.length_cons, List.length_nil] at this
            omega
          have hstack : (F0 m pc ls (st.map (jv_vl (jv_ad G)))).stack = (u0.reverse.map (jv_vl (jv_ad G))).reverse ++ .ref (jv_ad G a) :: (st.drop na2).map (jv_vl (jv_ad G)) := by
            show st.map (jv_vl (jv_ad G)) = _
            rw [hst, hu0]
            simp [jv_vl]
          have hpv : PreV s H (jv_ym z).1.cls (jv_ad G a) (jv_Pc D dA G adV L xs (st.take na2).reverse h) (u0.reverse.map (jv_vl (jv_ad G))) := by
            refine ⟨jv_blind, ?_, fun U hU hW => hpre U hU hW _ (by rw [hArr])⟩
            rw [w4]
            exact va_recv hK.1 hR.2.2.1 (jv_cls_ok dcl hcl9) (hR.at ha hcell)
          by_cases hne : ne = 0
          · rw [if_pos hne] at hlink
            exact jv_back (va_runV S hM ⟨callB_of (na2 - 1) hts (jv_good w1) rfl rfl rfl (hts _ w2) (hts _ (jv_in_ok hlink)) w5 hRm, hts _ (w9 rfl).1, hts _ (w9 rfl).2⟩ hpv rfl (by rw [List.length_map, List.length_reverse]; exact hlen0) hsz hstack (hWd _ rfl) hdg hf) hS kk2
          · rw [if_neg hne, decide_eq_true_eq] at hlink
            exact jv_back (va_runVN S hM ⟨va_cnB (na2 - 1) hts (jv_good w1) rfl rfl rfl (hK.2.2.2.2.2.2.2.2.1 _ hlink) (hts _ w2) w5 hRm, hts _ (w9 rfl).1, hts _ (w9 rfl).2⟩ hpv rfl (by rw [List.length_map, List.length_reverse]; exact hlen0) hsz hstack (hWd _ rfl) hdg hf) hS kk2
        · cases hrec
      · cases hrec
  · -- constructor
    have e := jv_len1 hl rfl; subst e
    rw [if_neg (by decide)] at w5
    obtain ⟨-, x1, x2, x3⟩ := w10 (by decide) (by decide)
    split at hrec
    · rename_i h0; cases h0
    · split at hrec
      · rename_i a hlast
        have hdec := List.getLast?_eq_some_iff.mp hlast
        obtain ⟨u0, hu0⟩ := hdec
        have hArr : (Value.ref (jv_ad G a) :: u0.reverse.map (jv_vl (jv_ad G))) = (st.take na2).reverse.map (jv_vl (jv_ad G)) := by rw [hu0]; simp [jv_vl]
        have hlen0 : u0.length = na2 - 1 := by
          have : (u0 ++ [Value.ref a]).length = na2 := by rw [← hu0]; exact hu
          simp only [List.length_append, List.length_cons, List.length_nil] at this
          omega
        have hstack : (F0 m pc ls (st.map (jv_vl (jv_ad G)))).stack = (u0.reverse.map (jv_vl (jv_ad G))).reverse ++ .ref (jv_ad G a) :: (st.drop na2).map (jv_vl (jv_ad G)) := by
          show st.map (jv_vl (jv_ad G)) = _
          rw [hst, hu0]
          simp [jv_vl]
        have hpv : PreS s H (jv_Pc D dA G adV L xs (st.take na2).reverse h) (.ref (jv_ad G a) :: u0.reverse.map (jv_vl (jv_ad G))) := ⟨jv_blind, fun U hU hW => hpre U hU hW _ (by rw [hArr])⟩
        rw [x3] at hM w1
        by_cases hne : ne = 0
        · rw [if_pos hne] at hlink
          exact jv_back (va_runI S hM ⟨callB_of (na2 - 1) hts (jv_good w1) rfl rfl rfl (hts _ w2) (hts _ (jv_in_ok hlink)) w5 hRm, x2, hts _ x1⟩ hpv rfl (by rw [List.length_map, List.length_reverse]; exact hlen0) hsz hstack (hWd _ rfl) hdg hf) hS kk2
        · rw [if_neg hne, decide_eq_true_eq] at hlink
          exact jv_back (va_runIN S hM ⟨va_cnB (na2 - 1) hts (jv_good w1) rfl rfl rfl (hK.2.2.2.2.2.2.2.2.1 _ hlink) (hts _ w2) w5 hRm, x2, hts _ x1⟩ hpv rfl (by rw [List.length_map, List.length_reverse]; exact hlen0) hsz hstack (hWd _ rfl) hdg hf) hS kk2
      · cases hrec
/-- what the J machine's run says of the machine, from the middle of a method -/
def jv_OK (l : Launch) (D : va_G) (dA : Nat → ClassId) (G : jv_G) (adV : Nat → Nat) (L : Nat) (xs : Nat → Int32) (y pc : Nat) (Lv : List (Option Value)) (st : List Value) (h : jv_H) (r : Option Value) (h' : jv_H) : Prop :=
  ∀ (p : Program) (e : Env) (R : Room) (s : State) (m : MethodId) (args : Array Value) (below : List Frame) (meth : Method) (c : Code) (H : Heap) (locs : List Loc) (cells slots tc ts : Nat) (Q : State → Prop) (ls : Array Slot) (ow kd na mL fr lo : Nat),
    jv_inf y = some (ow, kd, na, mL, fr, lo) → CallFix p m c (jv_ym y).2.1 mL s args jv_T (jv_own ow) → (kd = 2 → meth.name = "<init>") → jv_Kn D dA G adV L xs s → jv_Rep D dA G L xs h H → va_S (fun q => G.1 ≤ q) s.heap H locs → jv_Lc (jv_ad G) ls mL Lv → h'.2.1 ≤ 1000000 → fr ≤ R.frames → lo ≤ R.locals →
    tc = cells + (h'.2.1 - h.2.1) → ts = slots + (h'.2.2 - h.2.2) → tc ≤ R.cells → ts ≤ R.slots →
    (∀ (H' : Heap) (locs' : List Loc) (pc' : Nat) (ls' : Array Slot) (st' : List Value) (i : Instr) (len : Nat), decode (jv_ym y).2.1 pc' = .ok (i, len) → (jv_sw i = true ∨ len = jv_len i) → jv_ret (jv_ym y).2.2 i st' = some r → jv_Rep D dA G L xs h' H' → va_S (fun q => G.1 ≤ q) s.heap H' locs' → W p l e R s m args below meth c H' locs' tc ts Q (F0 m pc' ls' (st'.map (jv_vl (jv_ad G))))) →
    W p l e R s m args below meth c H locs cells slots Q (F0 m pc ls (st.map (jv_vl (jv_ad G))))
set_option maxHeartbeats 4000000 in
/-- a method's contract out of its body -/
theorem jv_met {z ow kd na mL fr lo : Nat} (hz : z < 271) (hq : jv_inf z = some (ow, kd, na, mL, fr, lo)) {a : List Value} (ha : ∀ v ∈ a, v.category = 1) (hn : a.length ≤ mL) {h h' : jv_H} {r : Option Value} (hok : jv_OK l D dA G adV L xs z 0 (a.map some ++ List.replicate (mL - a.length) none) [] h r h') (hm : h'.2.1 ≤ 1000000) :
    Met l (jv_ym z).1 (Cond.code (jv_ym z).1 (jv_ym z).2.1 mL (jv_ym z).2.2 :: jv_T) ({ frames := fr, cells := h'.2.1 - h.2.1, slots := h'.2.2 - h.2.2, locals := lo } : Room) (jv_Pc D dA G adV L xs a h) (jv_Qc D dA G L xs r h') (h'.2.1 - h.2.1) (h'.2.2 - h.2.2) (fun q => G.1 ≤ q) := by
  obtain ⟨w1, w2, w3, w4, w5, w6, w7, w8, w9, w10⟩ := jv_ckm_eq hz hq
  refine va_MetF (cc := (jv_ym z).2.1) (maxL := mL) (ret := (jv_ym z).2.2) (ws' := jv_T) w3 rfl ?_
  intro p e s m args below meth c s₁ B hml hP
  obtain ⟨rfl, hRep, hKn⟩ := hP
  have hx := B.exec
  have hb := B.bytes
  have hr := B.returns
  have hlocks := B.notSynchronized
  have hts : ∀ w ∈ jv_T, w.before (a.map (jv_vl (jv_ad G))).toArray s = true := fun w hw => atoms_spec (ws := Cond.code (jv_ym z).1 (jv_ym z).2.1 mL (jv_ym z).2.2 :: jv_T) B.pre w (List.mem_cons_of_mem _ hw)
  have hown : s.vm.findClass (jv_own ow) = some m.cls := by rw [← w4]; exact findClass_of_methodNamed B.named
  rw [lg_entry_eq]
  refine hok p e _ s m _ below meth c s.heap [] 0 0 (h'.2.1 - h.2.1) (h'.2.2 - h.2.2) _ _ ow kd na mL fr lo hq ⟨hx, hb, hml, hown, hts⟩ ?_ hKn hRep va_S.rf (jv_entry (jv_ad G) a mL ha hn) hm (Nat.le_refl _) (Nat.le_refl _) (Nat.zero_add _).symm (Nat.zero_add _).symm (Nat.le_refl _) (Nat.le_refl _) ?_
  · intro hk
    rw [(name_of_methodNamed B.named B.method).1]
    exact (w10 (by omega) (by omega)).2.2.1
  · intro H' locs' pc' ls' st' i len hd hl hret hR' hS'
    have hq2 : ∀ t : State, t.heap = H' → jv_Qc D dA G L xs r h' (a.map (jv_vl (jv_ad G))).toArray s (.returned (r.map (jv_vl (jv_ad G)))) t := fun t ht => ⟨rfl, by rw [ht]; exact hR', hS'.F ht⟩
    generalize hrt : (jv_ym z).2.2 = rt at hret hr
    unfold jv_ret at hret
    split at hret
    · have e := jv_len1 hl rfl; subst e
      cases hret
      exact W.vret hx hb hr (fun t ht _ => hq2 t ht) hS'.2.2 hd
    · have e := jv_len1 hl rfl; subst e
      split at hret
      · rename_i hnar
        cases hret
        exact W.zret hx hb hr hnar (fun t ht _ => hq2 t ht) hS'.2.2 hd
      · cases hret
    · have e := jv_len1 hl rfl; subst e
      cases hret
      exact W.aret hx hb hr (Or.inl ⟨_, rfl⟩) (Or.inr ⟨_, rfl⟩) (fun t ht _ => hq2 t ht) hS'.2.2 hd
    · have e := jv_len1 hl rfl; subst e
      cases hret
      exact W.fret hx hb hr (fun t ht _ => hq2 t ht) hS'.2.2 hd
    · have e := jv_len1 hl rfl; subst e
      cases hret
      exact W.dret hx hb hr (fun t ht _ => hq2 t ht) hS'.2.2 hd
    · cases hret
/-- the two members of String, by contract -/
def jv_LenMet (l : Launch) (D : va_G) (dA : Nat → ClassId) (G : jv_G) (adV : Nat → Nat) (L : Nat) (xs : Nat → Int32) : Prop := ∀ (i : Nat) (h : jv_H), i < 20 → Met l yJ0_length_8abf5 (Cond.code yJ0_length_8abf5 cJ0_length_8abf5 1 (some .int) :: jv_T) ({ frames := 1, cells := 0, slots := 0, locals := 20 } : Room) (jv_Pc D dA G adV L xs [.ref (1000001 + i)] h) (jv_Qc D dA G L xs (some (.int (Int32.ofNat (jv_byt.getD i []).length))) h) 0 0 (fun q => G.1 ≤ q)
def jv_ChrMet (l : Launch) (D : va_G) (dA : Nat → ClassId) (G : jv_G) (adV : Nat → Nat) (L : Nat) (xs : Nat → Int32) : Prop := ∀ (i : Nat) (j : Int32) (h : jv_H), i < 20 → ¬ (j < 0 ∨ (jv_byt.getD i []).length ≤ j.toNatClampNeg) → Met l yJ0_charAt_5068e (Cond.code yJ0_charAt_5068e cJ0_charAt_5068e 2 (some .char) :: jv_T) ({ frames := 5, cells := 0, slots := 0, locals := 99 } : Room) (jv_Pc D dA G adV L xs [.ref (1000001 + i), .int j] h) (jv_Qc D dA G L xs (some (.int ((jv_byt.getD i []).getD j.toNatClampNeg 0))) h) 0 0 (fun q => G.1 ≤ q)
end JSM
end
section
/-! THE TEXTS: String.length, String.charAt and what they call, over the claim's own literals; words by wip/gen/strs.py -/
theorem jw_codeLEN : Cond.code yJ0_length_8abf5 cJ0_length_8abf5 1 (some .int) ∈ jv_T := jv_in_ok (i := 438) (by decide +kernel)
theorem jw_codeCH : Cond.code yJ0_charAt_5068e cJ0_charAt_5068e 2 (some .char) ∈ jv_T := jv_in_ok (i := 448) (by decide +kernel)
theorem jw_codeCO : Cond.code yJ0_coder_7d493 cJ0_coder_7d493 1 (some .byte) ∈ jv_T := jv_in_ok (i := 442) (by decide +kernel)
theorem jw_codeLA : Cond.code yJ0_isLatin1_aae02 cJ0_isLatin1_aae02 1 (some .boolean) ∈ jv_T := jv_in_ok (i := 452) (by decide +kernel)
theorem jw_codeCI : Cond.code yJ0_checkIndex_df160 cJ0_checkIndex_df160 2 none ∈ jv_T := jv_in_ok (i := 458) (by decide +kernel)
theorem jw_codeC1 : Cond.code yJ1_charAt_3b067 cJ1_charAt_3b067 2 (some .char) ∈ jv_T := jv_in_ok (i := 455) (by decide +kernel)
theorem jw_codeC3 : Cond.code yJ3_checkIndex_8e157 cJ3_checkIndex_8e157 3 (some .int) ∈ jv_T := jv_in_ok (i := 463) (by decide +kernel)
theorem jw_insLEN : Cond.instanceMethod yJ0_length_8abf5 ∈ jv_T := jv_in_ok (i := 436) (by decide +kernel)
theorem jw_selLEN : Cond.selects RJ0 yJ0_length_8abf5 yJ0_length_8abf5 ∈ jv_T := jv_in_ok (i := 437) (by decide +kernel)
theorem jw_insCH : Cond.instanceMethod yJ0_charAt_5068e ∈ jv_T := jv_in_ok (i := 446) (by decide +kernel)
theorem jw_selCH : Cond.selects RJ0 yJ0_charAt_5068e yJ0_charAt_5068e ∈ jv_T := jv_in_ok (i := 447) (by decide +kernel)
theorem jw_insCO : Cond.instanceMethod yJ0_coder_7d493 ∈ jv_T := jv_in_ok (i := 440) (by decide +kernel)
theorem jw_selCO : Cond.selects RJ0 yJ0_coder_7d493 yJ0_coder_7d493 ∈ jv_T := jv_in_ok (i := 441) (by decide +kernel)
theorem jw_insLA : Cond.instanceMethod yJ0_isLatin1_aae02 ∈ jv_T := jv_in_ok (i := 450) (by decide +kernel)
theorem jw_selLA : Cond.selects RJ0 yJ0_isLatin1_aae02 yJ0_isLatin1_aae02 ∈ jv_T := jv_in_ok (i := 451) (by decide +kernel)
theorem jw_staCI : Cond.static yJ0_checkIndex_df160 ∈ jv_T := jv_in_ok (i := 457) (by decide +kernel)
theorem jw_staC1 : Cond.static yJ1_charAt_3b067 ∈ jv_T := jv_in_ok (i := 454) (by decide +kernel)
theorem jw_staC3 : Cond.static yJ3_checkIndex_8e157 ∈ jv_T := jv_in_ok (i := 462) (by decide +kernel)
theorem jw_ini0 : Cond.initialized RJ0 ∈ jv_T := jv_in_ok (i := 88) (by decide +kernel)
theorem jw_ini1 : Cond.initialized RJ1 ∈ jv_T := jv_in_ok (i := 89) (by decide +kernel)
theorem jw_ini3 : Cond.initialized RJ3 ∈ jv_T := jv_in_ok (i := 90) (by decide +kernel)
theorem jw_lCO : Cond.methodLink RJ0 335 yJ0_coder_7d493 ∈ jv_T := jv_in_ok (i := 439) (by decide +kernel)
theorem jw_lLA : Cond.methodLink RJ0 492 yJ0_isLatin1_aae02 ∈ jv_T := jv_in_ok (i := 449) (by decide +kernel)
theorem jw_lC1 : Cond.methodLink RJ0 495 yJ1_charAt_3b067 ∈ jv_T := jv_in_ok (i := 453) (by decide +kernel)
theorem jw_lCI : Cond.methodLink RJ1 9 yJ0_checkIndex_df160 ∈ jv_T := jv_in_ok (i := 456) (by decide +kernel)
theorem jw_lC3 : Cond.methodLink RJ0 1059 yJ3_checkIndex_8e157 ∈ jv_T := jv_in_ok (i := 461) (by decide +kernel)
theorem jw_fV : Cond.fieldLink RJ0 9 "java/lang/String" "value" "[B" ∈ jv_T := jv_in_ok (i := 1549) (by decide +kernel)
theorem jw_fC : Cond.fieldLink RJ0 15 "java/lang/String" "coder" "B" ∈ jv_T := jv_in_ok (i := 1550) (by decide +kernel)
theorem jw_fS : Cond.fieldLink RJ0 38 "java/lang/String" "COMPACT_STRINGS" "Z" ∈ jv_T := jv_in_ok (i := 443) (by decide +kernel)
theorem jw_fF : Cond.fieldLink RJ0 1053 "jdk/internal/util/Preconditions" "SIOOBE_FORMATTER" "Ljava/util/function/BiFunction;" ∈ jv_T := jv_in_ok (i := 459) (by decide +kernel)
theorem dJ0_length_8abf5_0 : decode cJ0_length_8abf5 0 = .ok (.aload_n 0, 1) := by decide +kernel
theorem dJ0_length_8abf5_1 : decode cJ0_length_8abf5 1 = .ok (.getfield 9, 3) := by decide +kernel
theorem dJ0_length_8abf5_4 : decode cJ0_length_8abf5 4 = .ok (.arraylength, 1) := by decide +kernel
theorem dJ0_length_8abf5_5 : decode cJ0_length_8abf5 5 = .ok (.aload_n 0, 1) := by decide +kernel
theorem dJ0_length_8abf5_6 : decode cJ0_length_8abf5 6 = .ok (.invokevirtual 335, 3) := by decide +kernel
theorem dJ0_length_8abf5_9 : decode cJ0_length_8abf5 9 = .ok (.ishr, 1) := by decide +kernel
theorem dJ0_length_8abf5_10 : decode cJ0_length_8abf5 10 = .ok (.ireturn, 1) := by decide +kernel
theorem dJ0_charAt_5068e_0 : decode cJ0_charAt_5068e 0 = .ok (.aload_n 0, 1) := by decide +kernel
theorem dJ0_charAt_5068e_1 : decode cJ0_charAt_5068e 1 = .ok (.invokevirtual 492, 3) := by decide +kernel
theorem dJ0_charAt_5068e_4 : decode cJ0_charAt_5068e 4 = .ok (.ifCond .eq 12, 3) := by decide +kernel
theorem dJ0_charAt_5068e_7 : decode cJ0_charAt_5068e 7 = .ok (.aload_n 0, 1) := by decide +kernel
theorem dJ0_charAt_5068e_8 : decode cJ0_charAt_5068e 8 = .ok (.getfield 9, 3) := by decide +kernel
theorem dJ0_charAt_5068e_11 : decode cJ0_charAt_5068e 11 = .ok (.iload_n 1, 1) := by decide +kernel
theorem dJ0_charAt_5068e_12 : decode cJ0_charAt_5068e 12 = .ok (.invokestatic 495, 3) := by decide +kernel
theorem dJ0_charAt_5068e_15 : decode cJ0_charAt_5068e 15 = .ok (.ireturn, 1) := by decide +kernel
theorem dJ0_charAt_5068e_16 : decode cJ0_charAt_5068e 16 = .ok (.aload_n 0, 1) := by decide +kernel
theorem dJ0_charAt_5068e_17 : decode cJ0_charAt_5068e 17 = .ok (.getfield 9, 3) := by decide +kernel
theorem dJ0_charAt_5068e_20 : decode cJ0_charAt_5068e 20 = .ok (.iload_n 1, 1) := by decide +kernel
theorem dJ0_charAt_5068e_21 : decode cJ0_charAt_5068e 21 = .ok (.invokestatic 498, 3) := by decide +kernel
theorem dJ0_charAt_5068e_24 : decode cJ0_charAt_5068e 24 = .ok (.ireturn, 1) := by decide +kernel
theorem dJ0_coder_7d493_0 : decode cJ0_coder_7d493 0 = .ok (.getstatic 38, 3) := by decide +kernel
theorem dJ0_coder_7d493_3 : decode cJ0_coder_7d493 3 = .ok (.ifCond .eq 10, 3) := by decide +kernel
theorem dJ0_coder_7d493_6 : decode cJ0_coder_7d493 6 = .ok (.aload_n 0, 1) := by decide +kernel
theorem dJ0_coder_7d493_7 : decode cJ0_coder_7d493 7 = .ok (.getfield 15, 3) := by decide +kernel
theorem dJ0_coder_7d493_10 : decode cJ0_coder_7d493 10 = .ok (.goto 4, 3) := by decide +kernel
theorem dJ0_coder_7d493_13 : decode cJ0_coder_7d493 13 = .ok (.iconst 1, 1) := by decide +kernel
theorem dJ0_coder_7d493_14 : decode cJ0_coder_7d493 14 = .ok (.ireturn, 1) := by decide +kernel
theorem dJ0_isLatin1_aae02_0 : decode cJ0_isLatin1_aae02 0 = .ok (.getstatic 38, 3) := by decide +kernel
theorem dJ0_isLatin1_aae02_3 : decode cJ0_isLatin1_aae02 3 = .ok (.ifCond .eq 14, 3) := by decide +kernel
theorem dJ0_isLatin1_aae02_6 : decode cJ0_isLatin1_aae02 6 = .ok (.aload_n 0, 1) := by decide +kernel
theorem dJ0_isLatin1_aae02_7 : decode cJ0_isLatin1_aae02 7 = .ok (.getfield 15, 3) := by decide +kernel
theorem dJ0_isLatin1_aae02_10 : decode cJ0_isLatin1_aae02 10 = .ok (.ifCond .ne 7, 3) := by decide +kernel
theorem dJ0_isLatin1_aae02_13 : decode cJ0_isLatin1_aae02 13 = .ok (.iconst 1, 1) := by decide +kernel
theorem dJ0_isLatin1_aae02_14 : decode cJ0_isLatin1_aae02 14 = .ok (.goto 4, 3) := by decide +kernel
theorem dJ0_isLatin1_aae02_17 : decode cJ0_isLatin1_aae02 17 = .ok (.iconst 0, 1) := by decide +kernel
theorem dJ0_isLatin1_aae02_18 : decode cJ0_isLatin1_aae02 18 = .ok (.ireturn, 1) := by decide +kernel
theorem dJ0_checkIndex_df160_0 : decode cJ0_checkIndex_df160 0 = .ok (.iload_n 0, 1) := by decide +kernel
theorem dJ0_checkIndex_df160_1 : decode cJ0_checkIndex_df160 1 = .ok (.iload_n 1, 1) := by decide +kernel
theorem dJ0_checkIndex_df160_2 : decode cJ0_checkIndex_df160 2 = .ok (.getstatic 1053, 3) := by decide +kernel
theorem dJ0_checkIndex_df160_5 : decode cJ0_checkIndex_df160 5 = .ok (.invokestatic 1059, 3) := by decide +kernel
theorem dJ0_checkIndex_df160_8 : decode cJ0_checkIndex_df160 8 = .ok (.pop, 1) := by decide +kernel
theorem dJ0_checkIndex_df160_9 : decode cJ0_checkIndex_df160 9 = .ok (.return_, 1) := by decide +kernel
theorem dJ1_charAt_3b067_0 : decode cJ1_charAt_3b067 0 = .ok (.iload_n 1, 1) := by decide +kernel
theorem dJ1_charAt_3b067_1 : decode cJ1_charAt_3b067 1 = .ok (.aload_n 0, 1) := by decide +kernel
theorem dJ1_charAt_3b067_2 : decode cJ1_charAt_3b067 2 = .ok (.arraylength, 1) := by decide +kernel
theorem dJ1_charAt_3b067_3 : decode cJ1_charAt_3b067 3 = .ok (.invokestatic 9, 3) := by decide +kernel
theorem dJ1_charAt_3b067_6 : decode cJ1_charAt_3b067 6 = .ok (.aload_n 0, 1) := by decide +kernel
theorem dJ1_charAt_3b067_7 : decode cJ1_charAt_3b067 7 = .ok (.iload_n 1, 1) := by decide +kernel
theorem dJ1_charAt_3b067_8 : decode cJ1_charAt_3b067 8 = .ok (.baload, 1) := by decide +kernel
theorem dJ1_charAt_3b067_9 : decode cJ1_charAt_3b067 9 = .ok (.sipush 255, 3) := by decide +kernel
theorem dJ1_charAt_3b067_12 : decode cJ1_charAt_3b067 12 = .ok (.iand, 1) := by decide +kernel
theorem dJ1_charAt_3b067_13 : decode cJ1_charAt_3b067 13 = .ok (.i2c, 1) := by decide +kernel
theorem dJ1_charAt_3b067_14 : decode cJ1_charAt_3b067 14 = .ok (.ireturn, 1) := by decide +kernel
theorem dJ3_checkIndex_8e157_0 : decode cJ3_checkIndex_8e157 0 = .ok (.iload_n 0, 1) := by decide +kernel
theorem dJ3_checkIndex_8e157_1 : decode cJ3_checkIndex_8e157 1 = .ok (.ifCond .lt 8, 3) := by decide +kernel
theorem dJ3_checkIndex_8e157_4 : decode cJ3_checkIndex_8e157 4 = .ok (.iload_n 0, 1) := by decide +kernel
theorem dJ3_checkIndex_8e157_5 : decode cJ3_checkIndex_8e157 5 = .ok (.iload_n 1, 1) := by decide +kernel
theorem dJ3_checkIndex_8e157_6 : decode cJ3_checkIndex_8e157 6 = .ok (.if_icmp .lt 10, 3) := by decide +kernel
theorem dJ3_checkIndex_8e157_9 : decode cJ3_checkIndex_8e157 9 = .ok (.aload_n 2, 1) := by decide +kernel
theorem dJ3_checkIndex_8e157_10 : decode cJ3_checkIndex_8e157 10 = .ok (.iload_n 0, 1) := by decide +kernel
theorem dJ3_checkIndex_8e157_11 : decode cJ3_checkIndex_8e157 11 = .ok (.iload_n 1, 1) := by decide +kernel
theorem dJ3_checkIndex_8e157_12 : decode cJ3_checkIndex_8e157 12 = .ok (.invokestatic 95, 3) := by decide +kernel
theorem dJ3_checkIndex_8e157_15 : decode cJ3_checkIndex_8e157 15 = .ok (.athrow, 1) := by decide +kernel
theorem dJ3_checkIndex_8e157_16 : decode cJ3_checkIndex_8e157 16 = .ok (.iload_n 0, 1) := by decide +kernel
theorem dJ3_checkIndex_8e157_17 : decode cJ3_checkIndex_8e157 17 = .ok (.ireturn, 1) := by decide +kernel
theorem jv_getD_mem {bl : List Int32} {n : Nat} (h : n < bl.length) : bl.getD n 0 ∈ bl := by
  rw [List.getD_eq_getElem?_getD, List.getElem?_eq_getElem h]
  exact List.getElem_mem h
theorem jv_byt_ok : ∀ i, i < 20 → jv_lens.getD i 0 = (jv_byt.getD i []).length ∧ (jv_byt.getD i []).length < 100 ∧ Int32.ofNat (jv_byt.getD i []).length >>> ((0 : Int32) &&& 31) = Int32.ofNat (jv_byt.getD i []).length ∧ ∀ x ∈ jv_byt.getD i [], ((x &&& 255).toUInt32 % 65536).toInt32 = x ∧ narrow .char (.int x) = .int x := by decide +kernel
section JST
variable {p : Program} {l : Launch} {e : Env} {R : Room} {s : State} {m : MethodId} {args : Array Value} {below : List Frame} {meth : Method} {c : Code} {H : Heap} {locs : List Loc} {cells slots : Nat} {Q : State → Prop}
variable {cc : ByteArray} {pc nL : Nat} {ls : Array Slot} {D : va_G} {dA : Nat → ClassId} {G : jv_G} {adV : Nat → Nat} {L : Nat} {xs : Nat → Int32}
def jv_Pr (D : va_G) (dA : Nat → ClassId) (G : jv_G) (adV : Nat → Nat) (L : Nat) (xs : Nat → Int32) (a : List Value) (h : jv_H) : Array Value → State → Prop := fun v U => v = a.toArray ∧ jv_Rep D dA G L xs h U.heap ∧ jv_Kn D dA G adV L xs U
theorem jv_blindR {a : List Value} {h : jv_H} : FrameBlind (jv_Pr D dA G adV L xs a h) := fun v U g mk hp => ⟨hp.1, hp.2.1, jv_Kn.same (u := U) (U := U.calling g mk v) rfl rfl hp.2.2⟩
/-- a static method of the JDK's is called -/
theorem jv_jS {own : String} (S : CallFix p m c cc nL s args jv_T own) (hK : jv_Kn D dA G adV L xs s) {h : jv_H} (hR : jv_Rep D dA G L xs h H) (hS : va_S (fun q => G.1 ≤ q) s.heap H locs) {y : MethodName} {bytes : ByteArray} {maxL index n f lo : Nat} {ret : Option FieldType} {As rest : List Value} {r : Option Value}
    (hM : Met l y (Cond.code y bytes maxL ret :: jv_T) ({ frames := f, cells := 0, slots := 0, locals := lo } : Room) (jv_Pr D dA G adV L xs As h) (jv_Qc D dA G L xs r h) 0 0 (fun q => G.1 ≤ q)) (w1 : Cond.code y bytes maxL ret ∈ jv_T) (w2 : Cond.initialized y.cls ∈ jv_T) (w3 : Cond.methodLink own index y ∈ jv_T) (w4 : Cond.static y ∈ jv_T)
    (hd : y.cls ≠ "java/lang/invoke/MethodHandle" ∧ y.cls ≠ "java/lang/invoke/VarHandle" ∧ (parseMethodDescriptor y.desc).map (fun d => d.parameters.length) = some n) (hRm : f + 1 ≤ R.frames ∧ 8 + (maxL + 11) + lo ≤ R.locals) (hn : As.length = n) (hsz : ls.size = nL) (hWd : jv_wd rest ≤ 8) (hdg : decode cc pc = .ok (.invokestatic index, 3)) (hf : cells ≤ R.cells ∧ slots ≤ R.slots)
    {st : List Value} (hst : st = As.reverse ++ rest)
    (kk : ∀ (H1 : Heap) (locs1 : List Loc), jv_Rep D dA G L xs h H1 → va_S (fun q => G.1 ≤ q) s.heap H1 locs1 → W p l e R s m args below meth c H1 locs1 cells slots Q (F0 m (pc + 3) ls ((r.map (jv_vl (jv_ad G))).toList ++ rest))) : W p l e R s m args below meth c H locs cells slots Q (F0 m pc ls st) := by
  have hts := S.2.2.2.2
  exact jv_back (va_runS S hM ⟨callB_of n hts (jv_good w1) rfl rfl rfl (hts _ w2) (hts _ w3) hd hRm, hts _ w4⟩ ⟨jv_blindR, fun U hU hW => ⟨rfl, by rw [hU]; exact hR, hK.next (by rw [hU]; exact hS) hW⟩⟩ rfl hn hsz hst (by show 2 * 0 + _ ≤ 8; unfold jv_wd at hWd; omega) hdg ⟨hf.1, hf.2⟩) hS kk
/-- a virtual method of String's is called -/
theorem jv_jV {own C : String} (S : CallFix p m c cc nL s args jv_T own) (hK : jv_Kn D dA G adV L xs s) {h : jv_H} (hR : jv_Rep D dA G L xs h H) (hS : va_S (fun q => G.1 ≤ q) s.heap H locs) {y : MethodName} {bytes : ByteArray} {maxL index n f lo b : Nat} {ret : Option FieldType} {As rest : List Value} {r : Option Value}
    (hM : Met l y (Cond.code y bytes maxL ret :: jv_T) ({ frames := f, cells := 0, slots := 0, locals := lo } : Room) (jv_Pr D dA G adV L xs (.ref b :: As) h) (jv_Qc D dA G L xs r h) 0 0 (fun q => G.1 ≤ q)) (w1 : Cond.code y bytes maxL ret ∈ jv_T) (w2 : Cond.initialized y.cls ∈ jv_T) (w3 : Cond.methodLink own index y ∈ jv_T) (w4 : Cond.instanceMethod y ∈ jv_T) (w5 : Cond.selects C y y ∈ jv_T)
    (hrv : ∃ cell : Cell, H[b]? = some cell ∧ cell.vm.isStatics = false ∧ s.vm.findClass C = some cell.cls)
    (hd : y.cls ≠ "java/lang/invoke/MethodHandle" ∧ y.cls ≠ "java/lang/invoke/VarHandle" ∧ (parseMethodDescriptor y.desc).map (fun d => d.parameters.length) = some n) (hRm : f + 1 ≤ R.frames ∧ 8 + (maxL + 11) + lo ≤ R.locals) (hn : As.length = n) (hsz : ls.size = nL) (hWd : jv_wd rest ≤ 8) (hdg : decode cc pc = .ok (.invokevirtual index, 3)) (hf : cells ≤ R.cells ∧ slots ≤ R.slots)
    {st : List Value} (hst : st = As.reverse ++ .ref b :: rest)
    (kk : ∀ (H1 : Heap) (locs1 : List Loc), jv_Rep D dA G L xs h H1 → va_S (fun q => G.1 ≤ q) s.heap H1 locs1 → W p l e R s m args below meth c H1 locs1 cells slots Q (F0 m (pc + 3) ls ((r.map (jv_vl (jv_ad G))).toList ++ rest))) : W p l e R s m args below meth c H locs cells slots Q (F0 m pc ls st) := by
  have hts := S.2.2.2.2
  exact jv_back (va_runV S hM ⟨callB_of n hts (jv_good w1) rfl rfl rfl (hts _ w2) (hts _ w3) hd hRm, hts _ w4, hts _ w5⟩ ⟨jv_blindR, hrv, fun U hU hW => ⟨rfl, by rw [hU]; exact hR, hK.next (by rw [hU]; exact hS) hW⟩⟩ rfl hn hsz hst (by show 2 * 0 + _ ≤ 8; unfold jv_wd at hWd; omega) hdg ⟨hf.1, hf.2⟩) hS kk
set_option maxRecDepth 100000 in
/-- Preconditions.checkIndex -/
theorem jv_metC3 (i n : Int32) (w : Value) (hw : w.category = 1) (h0 : ¬ i < 0) (h1 : i < n) (h : jv_H) : Met l yJ3_checkIndex_8e157 (Cond.code yJ3_checkIndex_8e157 cJ3_checkIndex_8e157 3 (some .int) :: jv_T) ({ frames := 0, cells := 0, slots := 0, locals := 0 } : Room) (jv_Pr D dA G adV L xs [.int i, .int n, w] h) (jv_Qc D dA G L xs (some (.int i)) h) 0 0 (fun q => G.1 ≤ q) := by
  refine va_MetF (cc := cJ3_checkIndex_8e157) (maxL := 3) (ret := some .int) (ws' := jv_T) (by decide +kernel) rfl ?_
  intro p e s m args below meth c s₁ B hml hP
  obtain ⟨rfl, hR, hK⟩ := hP
  have hx := B.exec
  have hb := B.bytes
  have hr := B.returns
  have hlocks := B.notSynchronized
  rw [lg_entry_eq]
  have hl := lv_entry [.int i, .int n, w] (n := 3) (by rw [jv_sl _ (by intro v hv; simp at hv; rcases hv with rfl | rfl | rfl <;> first | rfl | exact hw)]; exact Nat.le_refl 3)
  generalize ((lg_sl [.int i, .int n, w] ++ List.replicate (3 - (lg_sl [.int i, .int n, w]).length) Slot.unset).toArray) = ls at hl ⊢
  have l0 : ls[0]? = some (.val (.int i)) := hl.2.2 (0, .int i) (by simp [lv_args])
  have l1 : ls[1]? = some (.val (.int n)) := hl.2.2 (1, .int n) (by simp [lv_args, Value.category])
  refine lv_iload_n hx hb dJ3_checkIndex_8e157_0 rfl l0 ?_
  refine lv_if_lt (tgt := 9) hx hb dJ3_checkIndex_8e157_1 (by decide) (fun q => absurd q h0) (fun _ => ?_)
  refine lv_iload_n hx hb dJ3_checkIndex_8e157_4 rfl l0 ?_
  refine lv_iload_n hx hb dJ3_checkIndex_8e157_5 rfl l1 ?_
  refine lv_icmp_lt (tgt := 16) hx hb dJ3_checkIndex_8e157_6 (by decide) (fun _ => ?_) (fun q => absurd h1 q)
  refine lv_iload_n hx hb dJ3_checkIndex_8e157_16 rfl l0 ?_
  exact W.iret hx hb hr (fun t ht _ => ⟨rfl, by rw [ht]; exact hR, (va_S.rf (A := fun q => G.1 ≤ q)).F ht⟩) (fun q hq => by cases hq) dJ3_checkIndex_8e157_17
set_option maxRecDepth 100000 in
/-- String.checkIndex -/
theorem jv_metCI (i n : Int32) (h0 : ¬ i < 0) (h1 : i < n) (h : jv_H) : Met l yJ0_checkIndex_df160 (Cond.code yJ0_checkIndex_df160 cJ0_checkIndex_df160 2 none :: jv_T) ({ frames := 1, cells := 0, slots := 0, locals := 22 } : Room) (jv_Pr D dA G adV L xs [.int i, .int n] h) (jv_Qc D dA G L xs none h) 0 0 (fun q => G.1 ≤ q) := by
  refine va_MetF (cc := cJ0_checkIndex_df160) (maxL := 2) (ret := none) (ws' := jv_T) (by decide +kernel) rfl ?_
  intro p e s m args below meth c s₁ B hml hP
  obtain ⟨rfl, hR, hK⟩ := hP
  have hx := B.exec
  have hb := B.bytes
  have hr := B.returns
  have hlocks := B.notSynchronized
  have hts : ∀ w ∈ jv_T, w.before [Value.int i, .int n].toArray s = true := fun w hw => atoms_spec (ws := Cond.code yJ0_checkIndex_df160 cJ0_checkIndex_df160 2 none :: jv_T) B.pre w (List.mem_cons_of_mem _ hw)
  have hown : s.vm.findClass RJ0 = some m.cls := findClass_of_methodNamed B.named
  rw [lg_entry_eq]
  have hl := lv_entry [.int i, .int n] (n := 2) (Nat.le_of_ble_eq_true rfl)
  generalize ((lg_sl [.int i, .int n] ++ List.replicate (2 - (lg_sl [.int i, .int n]).length) Slot.unset).toArray) = ls at hl ⊢
  have l0 : ls[0]? = some (.val (.int i)) := hl.2.2 (0, .int i) (by simp [lv_args])
  have l1 : ls[1]? = some (.val (.int n)) := hl.2.2 (1, .int n) (by simp [lv_args, Value.category])
  have hS : va_S (fun q => G.1 ≤ q) s.heap s.heap [] := va_S.rf
  obtain ⟨v, hv, hZ⟩ := hK.2.2.2.2.2.2.2.2.2.2
  have hvc : v.category = 1 := by rcases hv with rfl | ⟨a, rfl⟩ <;> rfl
  refine lv_iload_n hx hb dJ0_checkIndex_df160_0 rfl l0 ?_
  refine lv_iload_n hx hb dJ0_checkIndex_df160_1 rfl l1 ?_
  refine va_gets hx hb hZ hS hown (hts _ jw_fF) (fun _ q => q) dJ0_checkIndex_df160_2 ?_
  refine jv_jS (n := 3) (As := [.int i, .int n, v]) (rest := []) ⟨hx, hb, hml, hown, hts⟩ hK hR hS (jv_metC3 i n v hvc h0 h1 h) jw_codeC3 jw_ini3 jw_lC3 jw_staC3 (by decide +kernel) ⟨Nat.le_refl _, Nat.le_refl _⟩ rfl hl.1 (by decide) dJ0_checkIndex_df160_5 ⟨Nat.le_refl _, Nat.le_refl _⟩ rfl (fun H1 locs1 hR1 hS1 => ?_)
  refine lv_pop (va := .int i) hx hb dJ0_checkIndex_df160_8 rfl ?_
  exact W.vret hx hb hr (fun t ht _ => ⟨rfl, by rw [ht]; exact hR1, hS1.F ht⟩) hS1.2.2 dJ0_checkIndex_df160_9
set_option maxRecDepth 100000 in
/-- StringLatin1.charAt over the bytes of text k -/
theorem jv_metC1 (k : Nat) (j : Int32) (hk : k < 20) (hj : ¬ (j < 0 ∨ (jv_byt.getD k []).length ≤ j.toNatClampNeg)) (h : jv_H) : Met l yJ1_charAt_3b067 (Cond.code yJ1_charAt_3b067 cJ1_charAt_3b067 2 (some .char) :: jv_T) ({ frames := 2, cells := 0, slots := 0, locals := 43 } : Room) (jv_Pr D dA G adV L xs [.ref (adV k), .int j] h) (jv_Qc D dA G L xs (some (.int ((jv_byt.getD k []).getD j.toNatClampNeg 0))) h) 0 0 (fun q => G.1 ≤ q) := by
  obtain ⟨hlen, hlt, hsh, hch⟩ := jv_byt_ok k hk
  refine va_MetF (cc := cJ1_charAt_3b067) (maxL := 2) (ret := some .char) (ws' := jv_T) (by decide +kernel) rfl ?_
  intro p e s m args below meth c s₁ B hml hP
  obtain ⟨rfl, hR, hK⟩ := hP
  have hx := B.exec
  have hb := B.bytes
  have hr := B.returns
  have hlocks := B.notSynchronized
  have hts : ∀ w ∈ jv_T, w.before [Value.ref (adV k), .int j].toArray s = true := fun w hw => atoms_spec (ws := Cond.code yJ1_charAt_3b067 cJ1_charAt_3b067 2 (some .char) :: jv_T) B.pre w (List.mem_cons_of_mem _ hw)
  have hown : s.vm.findClass RJ1 = some m.cls := findClass_of_methodNamed B.named
  rw [lg_entry_eq]
  have hl := lv_entry [.ref (adV k), .int j] (n := 2) (Nat.le_of_ble_eq_true rfl)
  generalize ((lg_sl [.ref (adV k), .int j] ++ List.replicate (2 - (lg_sl [.ref (adV k), .int j]).length) Slot.unset).toArray) = ls at hl ⊢
  have l0 : ls[0]? = some (.val (.ref (adV k))) := hl.2.2 (0, .ref (adV k)) (by simp [lv_args])
  have l1 : ls[1]? = some (.val (.int j)) := hl.2.2 (1, .int j) (by simp [lv_args, Value.category])
  have hS : va_S (fun q => G.1 ≤ q) s.heap s.heap [] := va_S.rf
  have hT := (hK.2.2.2.2.1.1 k hk).2.2.2
  rw [hlen] at hT
  have hj0 : ¬ j < 0 := fun q => hj (Or.inl q)
  have hjn : j.toNatClampNeg < (jv_byt.getD k []).length := Nat.not_le.mp (fun q => hj (Or.inr q))
  have hj1 : j < Int32.ofNat (jv_byt.getD k []).length := by
    have e1 : (0 : Int) ≤ j.toInt := by
      have := Int32.not_lt.mp hj0
      simpa using Int32.le_iff_toInt_le.mp this
    have e2 : j.toInt = (j.toNatClampNeg : Int) := by
      show j.toInt = ((j.toInt.toNat : Nat) : Int)
      omega
    rw [Int32.lt_iff_toInt_lt, e2, show (Int32.ofNat (jv_byt.getD k []).length).toInt = ((jv_byt.getD k []).length : Int) from nI_toInt (by omega)]
    omega
  have hmem : (jv_byt.getD k []).getD j.toNatClampNeg 0 ∈ jv_byt.getD k [] := jv_getD_mem hjn
  obtain ⟨hc1, hc2⟩ := hch _ hmem
  refine lv_iload_n hx hb dJ1_charAt_3b067_0 rfl l1 ?_
  refine lv_aload_n hx hb dJ1_charAt_3b067_1 rfl l0 ?_
  refine va_tlen hx hb hT hS rfl dJ1_charAt_3b067_2 ?_
  refine jv_jS (n := 2) (As := [.int j, .int (Int32.ofNat (jv_byt.getD k []).length)]) (rest := []) ⟨hx, hb, hml, hown, hts⟩ hK hR hS (jv_metCI j _ hj0 hj1 h) jw_codeCI jw_ini0 jw_lCI jw_staCI (by decide +kernel) ⟨Nat.le_refl _, Nat.le_refl _⟩ rfl hl.1 (by decide) dJ1_charAt_3b067_3 ⟨Nat.le_refl _, Nat.le_refl _⟩ rfl (fun H1 locs1 hR1 hS1 => ?_)
  refine lv_aload_n hx hb dJ1_charAt_3b067_6 rfl l0 ?_
  refine lv_iload_n hx hb dJ1_charAt_3b067_7 rfl l1 ?_
  refine va_tb hx hb hT hS1 hj rfl dJ1_charAt_3b067_8 ?_
  refine lv_sipush (v := 255) hx hb dJ1_charAt_3b067_9 (by decide) ?_
  refine lv_iand hx hb dJ1_charAt_3b067_12 ?_
  refine lv_i2c hx hb dJ1_charAt_3b067_13 hc1 ?_
  exact W.zret hx hb hr hc2 (fun t ht _ => ⟨rfl, by rw [ht]; exact hR1, hS1.F ht⟩) hS1.2.2 dJ1_charAt_3b067_14
set_option maxRecDepth 100000 in
/-- String.coder of text k -/
theorem jv_metCO (k : Nat) (hk : k < 20) (h : jv_H) : Met l yJ0_coder_7d493 (Cond.code yJ0_coder_7d493 cJ0_coder_7d493 1 (some .byte) :: jv_T) ({ frames := 0, cells := 0, slots := 0, locals := 0 } : Room) (jv_Pr D dA G adV L xs [.ref (G.2.2 k)] h) (jv_Qc D dA G L xs (some (.int 0)) h) 0 0 (fun q => G.1 ≤ q) := by
  refine va_MetF (cc := cJ0_coder_7d493) (maxL := 1) (ret := some .byte) (ws' := jv_T) (by decide +kernel) rfl ?_
  intro p e s m args below meth c s₁ B hml hP
  obtain ⟨rfl, hR, hK⟩ := hP
  have hx := B.exec
  have hb := B.bytes
  have hr := B.returns
  have hlocks := B.notSynchronized
  have hts : ∀ w ∈ jv_T, w.before [Value.ref (G.2.2 k)].toArray s = true := fun w hw => atoms_spec (ws := Cond.code yJ0_coder_7d493 cJ0_coder_7d493 1 (some .byte) :: jv_T) B.pre w (List.mem_cons_of_mem _ hw)
  have hown : s.vm.findClass RJ0 = some m.cls := findClass_of_methodNamed B.named
  rw [lg_entry_eq]
  have hl := lv_entry [.ref (G.2.2 k)] (n := 1) (Nat.le_of_ble_eq_true rfl)
  generalize ((lg_sl [.ref (G.2.2 k)] ++ List.replicate (1 - (lg_sl [.ref (G.2.2 k)]).length) Slot.unset).toArray) = ls at hl ⊢
  have l0 : ls[0]? = some (.val (.ref (G.2.2 k))) := hl.2.2 (0, .ref (G.2.2 k)) (by simp [lv_args])
  have hS : va_S (fun q => G.1 ≤ q) s.heap s.heap [] := va_S.rf
  refine va_gets hx hb hK.2.2.2.2.2.2.2.2.2.1 hS hown (hts _ jw_fS) (fun _ q => q) dJ0_coder_7d493_0 ?_
  refine lv_if_eq (tgt := 13) hx hb dJ0_coder_7d493_3 (by decide) (fun q => absurd q (by decide)) (fun _ => ?_)
  refine lv_aload_n hx hb dJ0_coder_7d493_6 rfl l0 ?_
  refine vk_getf hx hb (hK.2.2.2.2.1.1 k hk).2.1 hS hown (hts _ jw_fC) (fun _ q => q) dJ0_coder_7d493_7 ?_
  refine lv_goto (tgt := 14) hx hb dJ0_coder_7d493_10 (by decide) ?_
  exact W.zret hx hb hr (by decide) (fun t ht _ => ⟨rfl, by rw [ht]; exact hR, hS.F ht⟩) (fun q hq => by cases hq) dJ0_coder_7d493_14
set_option maxRecDepth 100000 in
/-- String.isLatin1 of text k -/
theorem jv_metLA (k : Nat) (hk : k < 20) (h : jv_H) : Met l yJ0_isLatin1_aae02 (Cond.code yJ0_isLatin1_aae02 cJ0_isLatin1_aae02 1 (some .boolean) :: jv_T) ({ frames := 0, cells := 0, slots := 0, locals := 0 } : Room) (jv_Pr D dA G adV L xs [.ref (G.2.2 k)] h) (jv_Qc D dA G L xs (some (.int 1)) h) 0 0 (fun q => G.1 ≤ q) := by
  refine va_MetF (cc := cJ0_isLatin1_aae02) (maxL := 1) (ret := some .boolean) (ws' := jv_T) (by decide +kernel) rfl ?_
  intro p e s m args below meth c s₁ B hml hP
  obtain ⟨rfl, hR, hK⟩ := hP
  have hx := B.exec
  have hb := B.bytes
  have hr := B.returns
  have hlocks := B.notSynchronized
  have hts : ∀ w ∈ jv_T, w.before [Value.ref (G.2.2 k)].toArray s = true := fun w hw => atoms_spec (ws := Cond.code yJ0_isLatin1_aae02 cJ0_isLatin1_aae02 1 (some .boolean) :: jv_T) B.pre w (List.mem_cons_of_mem _ hw)
  have hown : s.vm.findClass RJ0 = some m.cls := findClass_of_methodNamed B.named
  rw [lg_entry_eq]
  have hl := lv_entry [.ref (G.2.2 k)] (n := 1) (Nat.le_of_ble_eq_true rfl)
  generalize ((lg_sl [.ref (G.2.2 k)] ++ List.replicate (1 - (lg_sl [.ref (G.2.2 k)]).length) Slot.unset).toArray) = ls at hl ⊢
  have l0 : ls[0]? = some (.val (.ref (G.2.2 k))) := hl.2.2 (0, .ref (G.2.2 k)) (by simp [lv_args])
  have hS : va_S (fun q => G.1 ≤ q) s.heap s.heap [] := va_S.rf
  refine va_gets hx hb hK.2.2.2.2.2.2.2.2.2.1 hS hown (hts _ jw_fS) (fun _ q => q) dJ0_isLatin1_aae02_0 ?_
  refine lv_if_eq (tgt := 17) hx hb dJ0_isLatin1_aae02_3 (by decide) (fun q => absurd q (by decide)) (fun _ => ?_)
  refine lv_aload_n hx hb dJ0_isLatin1_aae02_6 rfl l0 ?_
  refine vk_getf hx hb (hK.2.2.2.2.1.1 k hk).2.1 hS hown (hts _ jw_fC) (fun _ q => q) dJ0_isLatin1_aae02_7 ?_
  refine lv_if_ne (tgt := 17) hx hb dJ0_isLatin1_aae02_10 (by decide) (fun q => absurd rfl q) (fun _ => ?_)
  refine lv_iconst (v := 1) hx hb dJ0_isLatin1_aae02_13 (by decide) ?_
  refine lv_goto (tgt := 18) hx hb dJ0_isLatin1_aae02_14 (by decide) ?_
  exact W.zret hx hb hr (by decide) (fun t ht _ => ⟨rfl, by rw [ht]; exact hR, hS.F ht⟩) (fun q hq => by cases hq) dJ0_isLatin1_aae02_18
set_option maxRecDepth 100000 in
theorem jv_len_met : jv_LenMet l D dA G adV L xs := by
  intro k h hk
  obtain ⟨hlen, hlt, hsh, hch⟩ := jv_byt_ok k hk
  refine va_MetF (cc := cJ0_length_8abf5) (maxL := 1) (ret := some .int) (ws' := jv_T) (by decide +kernel) rfl ?_
  intro p e s m args below meth c s₁ B hml hP
  obtain ⟨hargs, hR, hK⟩ := hP
  have hargs2 : args = [Value.ref (G.2.2 k)].toArray := by
    rw [hargs]
    show [Value.ref (jv_ad G (1000001 + k))].toArray = _
    rw [jv_ad_txt]
  subst hargs2
  have hx := B.exec
  have hb := B.bytes
  have hr := B.returns
  have hlocks := B.notSynchronized
  have hts : ∀ w ∈ jv_T, w.before [Value.ref (G.2.2 k)].toArray s = true := fun w hw => atoms_spec (ws := Cond.code yJ0_length_8abf5 cJ0_length_8abf5 1 (some .int) :: jv_T) B.pre w (List.mem_cons_of_mem _ hw)
  have hown : s.vm.findClass RJ0 = some m.cls := findClass_of_methodNamed B.named
  rw [lg_entry_eq]
  have hl := lv_entry [.ref (G.2.2 k)] (n := 1) (Nat.le_of_ble_eq_true rfl)
  generalize ((lg_sl [.ref (G.2.2 k)] ++ List.replicate (1 - (lg_sl [.ref (G.2.2 k)]).length) Slot.unset).toArray) = ls at hl ⊢
  have l0 : ls[0]? = some (.val (.ref (G.2.2 k))) := hl.2.2 (0, .ref (G.2.2 k)) (by simp [lv_args])
  have hS : va_S (fun q => G.1 ≤ q) s.heap s.heap [] := va_S.rf
  have hT := (hK.2.2.2.2.1.1 k hk).2.2.2
  rw [hlen] at hT
  refine lv_aload_n hx hb dJ0_length_8abf5_0 rfl l0 ?_
  refine vk_getf hx hb (hK.2.2.2.2.1.1 k hk).2.2.1 hS hown (hts _ jw_fV) (fun _ q => q) dJ0_length_8abf5_1 ?_
  refine va_tlen hx hb hT hS rfl dJ0_length_8abf5_4 ?_
  refine lv_aload_n hx hb dJ0_length_8abf5_5 rfl l0 ?_
  refine jv_jV (n := 0) (C := RJ0) (As := []) (b := G.2.2 k) (rest := [.int (Int32.ofNat (jv_byt.getD k []).length)]) ⟨hx, hb, hml, hown, hts⟩ hK hR hS (jv_metCO k hk h) jw_codeCO jw_ini0 jw_lCO jw_insCO jw_selCO (vk_recv hK.2.2.2.2.1 hk hS) (by decide +kernel) ⟨by decide, by decide⟩ rfl hl.1 (Nat.le_of_ble_eq_true rfl) dJ0_length_8abf5_6 ⟨Nat.le_refl _, Nat.le_refl _⟩ rfl (fun H1 locs1 hR1 hS1 => ?_)
  refine lv_ishr (x := Int32.ofNat (jv_byt.getD k []).length) (y := 0) hx hb dJ0_length_8abf5_9 ?_
  rw [hsh]
  exact W.iret hx hb hr (fun t ht _ => ⟨rfl, by rw [ht]; exact hR1, hS1.F ht⟩) hS1.2.2 dJ0_length_8abf5_10
set_option maxRecDepth 100000 in
theorem jv_chr_met : jv_ChrMet l D dA G adV L xs := by
  intro k j h hk hj
  refine va_MetF (cc := cJ0_charAt_5068e) (maxL := 2) (ret := some .char) (ws' := jv_T) (by decide +kernel) rfl ?_
  intro p e s m args below meth c s₁ B hml hP
  obtain ⟨hargs, hR, hK⟩ := hP
  have hargs2 : args = [Value.ref (G.2.2 k), .int j].toArray := by
    rw [hargs]
    show [Value.ref (jv_ad G (1000001 + k)), .int j].toArray = _
    rw [jv_ad_txt]
  subst hargs2
  have hx := B.exec
  have hb := B.bytes
  have hr := B.returns
  have hlocks := B.notSynchronized
  have hts : ∀ w ∈ jv_T, w.before [Value.ref (G.2.2 k), .int j].toArray s = true := fun w hw => atoms_spec (ws := Cond.code yJ0_charAt_5068e cJ0_charAt_5068e 2 (some .char) :: jv_T) B.pre w (List.mem_cons_of_mem _ hw)
  have hown : s.vm.findClass RJ0 = some m.cls := findClass_of_methodNamed B.named
  rw [lg_entry_eq]
  have hl := lv_entry [.ref (G.2.2 k), .int j] (n := 2) (Nat.le_of_ble_eq_true rfl)
  generalize ((lg_sl [.ref (G.2.2 k), .int j] ++ List.replicate (2 - (lg_sl [.ref (G.2.2 k), .int j]).length) Slot.unset).toArray) = ls at hl ⊢
  have l0 : ls[0]? = some (.val (.ref (G.2.2 k))) := hl.2.2 (0, .ref (G.2.2 k)) (by simp [lv_args])
  have l1 : ls[1]? = some (.val (.int j)) := hl.2.2 (1, .int j) (by simp [lv_args, Value.category])
  have hS : va_S (fun q => G.1 ≤ q) s.heap s.heap [] := va_S.rf
  obtain ⟨hlen, hlt, hsh, hch⟩ := jv_byt_ok k hk
  have hjn : j.toNatClampNeg < (jv_byt.getD k []).length := Nat.not_le.mp (fun q => hj (Or.inr q))
  have hmem : (jv_byt.getD k []).getD j.toNatClampNeg 0 ∈ jv_byt.getD k [] := jv_getD_mem hjn
  refine lv_aload_n hx hb dJ0_charAt_5068e_0 rfl l0 ?_
  refine jv_jV (n := 0) (C := RJ0) (As := []) (b := G.2.2 k) (rest := []) ⟨hx, hb, hml, hown, hts⟩ hK hR hS (jv_metLA k hk h) jw_codeLA jw_ini0 jw_lLA jw_insLA jw_selLA (vk_recv hK.2.2.2.2.1 hk hS) (by decide +kernel) ⟨by decide, by decide⟩ rfl hl.1 (by decide) dJ0_charAt_5068e_1 ⟨Nat.le_refl _, Nat.le_refl _⟩ rfl (fun H1 locs1 hR1 hS1 => ?_)
  refine lv_if_eq (x := 1) (tgt := 16) hx hb dJ0_charAt_5068e_4 (by decide) (fun q => absurd q (by decide)) (fun _ => ?_)
  refine lv_aload_n hx hb dJ0_charAt_5068e_7 rfl l0 ?_
  refine vk_getf hx hb (hK.2.2.2.2.1.1 k hk).2.2.1 hS1 hown (hts _ jw_fV) (fun _ q => q) dJ0_charAt_5068e_8 ?_
  refine lv_iload_n hx hb dJ0_charAt_5068e_11 rfl l1 ?_
  refine jv_jS (n := 2) (As := [.ref (adV k), .int j]) (rest := []) ⟨hx, hb, hml, hown, hts⟩ hK hR1 hS1 (jv_metC1 k j hk hj h) jw_codeC1 jw_ini1 jw_lC1 jw_staC1 (by decide +kernel) ⟨by decide, by decide⟩ rfl hl.1 (by decide) dJ0_charAt_5068e_12 ⟨Nat.le_refl _, Nat.le_refl _⟩ rfl (fun H2 locs2 hR2 hS2 => ?_)
  exact W.zret hx hb hr (hch _ hmem).2 (fun t ht _ => ⟨rfl, by rw [ht]; exact hR2, hS2.F ht⟩) hS2.2.2 dJ0_charAt_5068e_15
end JST
end
section
/-! THE J MACHINE IS RIGHT: the whole -/
theorem jw_lStr {ow idx z na ne : Nat} (h : jv_cal ow idx = some (z, na, ne)) : (z = 900 → Cond.methodLink (jv_own ow) idx Lib.objectInit ∈ jv_T) ∧ (z = 901 → Cond.methodLink (jv_own ow) idx yJ0_length_8abf5 ∈ jv_T) ∧ (z = 902 → Cond.methodLink (jv_own ow) idx yJ0_charAt_5068e ∈ jv_T) ∧ (z ≠ 900 → z ≠ 901 → z ≠ 902 → z < 271) := by
  have hck := jv_ckc_ok h
  unfold jv_ckc1 at hck
  refine ⟨fun hz => ?_, fun hz => ?_, fun hz => ?_, fun h0 h1 h2 => ?_⟩
  · subst hz
    exact jv_in_ok hck
  · subst hz
    exact jv_in_ok hck
  · subst hz
    exact jv_in_ok hck
  · rw [if_neg h0, if_neg h1, if_neg h2] at hck
    split at hck
    · simp only [Bool.and_eq_true, decide_eq_true_eq] at hck
      exact hck.1.2
    · cases hck
theorem jv_strlen_eq {st st' : List Value} (h0 : jv_strlen st = some st') : ∃ (i : Nat) (r : List Value), i < 20 ∧ st = .ref (1000001 + i) :: r ∧ st' = .int (Int32.ofNat (jv_byt.getD i []).length) :: r := by
  unfold jv_strlen at h0
  split at h0
  · rename_i a r
    split at h0
    · rename_i i htx
      obtain ⟨hi20, rfl⟩ := jv_tix_eq htx
      cases h0
      exact ⟨i, r, hi20, rfl, rfl⟩
    · cases h0
  · cases h0
theorem jv_strat_eq {st st' : List Value} (h0 : jv_strat st = some st') : ∃ (i : Nat) (j : Int32) (r : List Value), i < 20 ∧ ¬ (j < 0 ∨ (jv_byt.getD i []).length ≤ j.toNatClampNeg) ∧ st = .int j :: .ref (1000001 + i) :: r ∧ st' = .int ((jv_byt.getD i []).getD j.toNatClampNeg 0) :: r := by
  unfold jv_strat at h0
  split at h0
  · rename_i j a r
    split at h0
    · rename_i i htx
      obtain ⟨hi20, rfl⟩ := jv_tix_eq htx
      split at h0
      · rename_i hj
        cases h0
        exact ⟨i, j, r, hi20, hj, rfl, rfl⟩
      · cases h0
    · cases h0
  · cases h0
section JSS
variable {l : Launch} {D : va_G} {dA : Nat → ClassId} {G : jv_G} {adV : Nat → Nat} {L : Nat} {xs : Nat → Int32}
set_option maxHeartbeats 8000000 in
set_option maxRecDepth 100000 in
theorem jv_sound : ∀ (n y pc : Nat) (Lv : List (Option Value)) (st : List Value) (h h' : jv_H) (r : Option Value), jv_run n y pc Lv st h = some (r, h') → jv_OK l D dA G adV L xs y pc Lv st h r h'
  | 0, _, _, _, _, _, _, _, h0 => by cases h0
  | n + 1, y, pc, Lv, st, h, h', r, h0 => by
    intro p e R s m args below meth c H locs cells slots tc ts Q ls ow kd na mL fr lo hinf S hini hK hR hS hLv hm hfr hlo htc hts2 htcR htsR hend
    obtain ⟨ow1, kd1, na1, mL1, fr1, lo1, i, len, hinf1, hcode, hcase⟩ := jv_run_inv h0
    have he := Option.some.inj (hinf.symm.trans hinf1)
    cases he
    obtain ⟨hdg, hl⟩ := jv_code_ok hcode
    have S0 := S
    obtain ⟨hx, hb, hml, hown, hts⟩ := S0
    have hmono := jv_run_mono (n + 1) h0
    rcases hcase with ⟨hret, rfl⟩ | ⟨pc', L', st', h1, hs, hr⟩ | ⟨ck, idx, z, na', ne, hci, hcal, hz⟩
    · have e1 : tc = cells := by omega
      have e2 : ts = slots := by omega
      subst e1
      subst e2
      exact hend H locs pc ls st i len hdg hl hret hR hS
    · have m1 := jv_step_mono hs
      have m2 := jv_run_mono n hr
      refine jv_step_ok hx hb hown hts hK hR hS (fun q => hini (by simpa using q)) hLv hdg hl hs (by omega) (by omega) (by omega) ?_
      intro H' locs' ls' cells' slots' e1 e2 hR' hS' hL'
      exact jv_sound n y pc' L' st' h1 h' r hr p e R s m args below meth c H' locs' cells' slots' tc ts Q ls' ow kd na mL fr lo hinf S hini hK hR' hS' hL' hm hfr hlo (by omega) (by omega) htcR htsR hend
    · obtain ⟨q900, q901, q902, qz⟩ := jw_lStr hcal
      rcases hz with ⟨hz, a, rst, rfl, hck, hf1, hl1, hr⟩ | ⟨hz, st', hst, hck, hf1, hl1, hl2, hr⟩ | ⟨hz, st', hst, hck, hf1, hl1, hl2, hr⟩ | ⟨hz0, hz1, hz2, q, r1, h1, hq, hmay, hr1, hr⟩
      · subst hck
        have hi : i = .invokespecial idx := by
          rcases jv_isC_eq hci with ⟨hk, -⟩ | ⟨hk, -⟩ | ⟨-, hi⟩
          · cases hk
          · cases hk
          · exact hi
        subst hi
        have e := jv_len1 hl rfl
        subst e
        refine W.objInit (a := jv_ad G a) (rest := rst.map (jv_vl (jv_ad G))) hx hb hown (hts _ (q900 hz)) (hts _ (jv_in_ok jv_obI)) (hts _ (jv_in_ok jv_obC)) rfl (hLv.1.trans hml.symm) rfl hdg (by omega) ?_ ?_
        · show 2 * 0 + _ + 12 ≤ R.locals
          rw [jv_wd_map]
          omega
        · exact jv_sound n y (pc + 3) Lv rst h h' r hr p e R s m args below meth c H locs cells slots tc ts Q ls ow kd na mL fr lo hinf S hini hK hR hS hLv hm hfr hlo htc hts2 htcR htsR hend
      · subst hck
        have hi : i = .invokevirtual idx := by
          rcases jv_isC_eq hci with ⟨hk, -⟩ | ⟨-, hi⟩ | ⟨hk, -⟩
          · cases hk
          · exact hi
          · cases hk
        subst hi
        have e := jv_len1 hl rfl
        subst e
        obtain ⟨k, rst, hk20, rfl, rfl⟩ := jv_strlen_eq hst
        have hWd : jv_wd (rst.map (jv_vl (jv_ad G))) ≤ 8 := by
          have h9 : jv_wd rst ≤ 8 := hl2
          unfold jv_wd
          rw [jv_wd_map]
          exact h9
        have hcell : ∃ cell : Cell, H[jv_ad G (1000001 + k)]? = some cell ∧ cell.vm.isStatics = false ∧ s.vm.findClass RJ0 = some cell.cls := by
          rw [jv_ad_txt]
          exact vk_recv hK.2.2.2.2.1 hk20 hS
        refine jv_jV (C := RJ0) (As := []) (n := 0) (b := jv_ad G (1000001 + k)) (rest := rst.map (jv_vl (jv_ad G))) S hK hR hS (jv_len_met k h hk20) jw_codeLEN jw_ini0 (q901 hz) jw_insLEN jw_selLEN hcell (by decide +kernel) ⟨by show 1 + 1 ≤ R.frames; omega, by show 8 + (1 + 11) + 20 ≤ R.locals; omega⟩ rfl hLv.1 hWd hdg ⟨by omega, by omega⟩ rfl (fun H1 locs1 hR1 hS1 => ?_)
        exact jv_sound n y (pc + 3) Lv _ h h' r hr p e R s m args below meth c H1 locs1 cells slots tc ts Q ls ow kd na mL fr lo hinf S hini hK hR1 hS1 hLv hm hfr hlo htc hts2 htcR htsR hend
      · subst hck
        have hi : i = .invokevirtual idx := by
          rcases jv_isC_eq hci with ⟨hk, -⟩ | ⟨-, hi⟩ | ⟨hk, -⟩
          · cases hk
          · exact hi
          · cases hk
        subst hi
        have e := jv_len1 hl rfl
        subst e
        obtain ⟨k, j, rst, hk20, hj, rfl, rfl⟩ := jv_strat_eq hst
        have hWd : jv_wd (rst.map (jv_vl (jv_ad G))) ≤ 8 := by
          have h9 : jv_wd rst ≤ 8 := hl2
          unfold jv_wd
          rw [jv_wd_map]
          exact h9
        have hcell : ∃ cell : Cell, H[jv_ad G (1000001 + k)]? = some cell ∧ cell.vm.isStatics = false ∧ s.vm.findClass RJ0 = some cell.cls := by
          rw [jv_ad_txt]
          exact vk_recv hK.2.2.2.2.1 hk20 hS
        refine jv_jV (C := RJ0) (As := [.int j]) (n := 1) (b := jv_ad G (1000001 + k)) (rest := rst.map (jv_vl (jv_ad G))) S hK hR hS (jv_chr_met k j h hk20 hj) jw_codeCH jw_ini0 (q902 hz) jw_insCH jw_selCH hcell (by decide +kernel) ⟨by show 5 + 1 ≤ R.frames; omega, by show 8 + (2 + 11) + 99 ≤ R.locals; omega⟩ rfl hLv.1 hWd hdg ⟨by omega, by omega⟩ rfl (fun H1 locs1 hR1 hS1 => ?_)
        exact jv_sound n y (pc + 3) Lv _ h h' r hr p e R s m args below meth c H1 locs1 cells slots tc ts Q ls ow kd na mL fr lo hinf S hini hK hR1 hS1 hLv hm hfr hlo htc hts2 htcR htsR hend
      · obtain ⟨ow2, kd2, na2, mL2, fr2, lo2⟩ := q
        have m1 := jv_run_mono n hr1
        have m2 := jv_run_mono n hr
        have hmay2 := hmay
        unfold jv_may at hmay2
        simp only [Bool.and_eq_true, decide_eq_true_eq] at hmay2
        obtain ⟨⟨-, -, hn2, hn3, -, -, -, hw2⟩, -⟩ := hmay2
        have hlen : (st.take na').reverse.length = na' := by rw [List.length_reverse, List.length_take]; omega
        have hcat : ∀ v ∈ (st.take na').reverse, v.category = 1 := by
          intro v hv
          exact jv_wd_one (st.take na') (by rw [hw2, List.length_take]; omega) v (List.mem_reverse.mp hv)
        have hok := jv_sound n z 0 _ [] h h1 r1 hr1
        have hM := jv_met (qz hz0 hz1 hz2) hq hcat (by omega) (h := h) (h' := h1) (r := r1) (by rw [hlen]; exact hok) (by omega)
        refine jv_call_ok S hK hR hS hq hcal hz0 hz1 hz2 hdg hci hl hmay hfr hlo hLv.1 hM ⟨by omega, by omega⟩ ?_
        intro H1 locs1 hR1 hS1
        exact jv_sound n y (pc + 3) Lv _ h1 h' r hr p e R s m args below meth c H1 locs1 _ _ tc ts Q ls ow kd na mL fr lo hinf S hini hK hR1 hS1 hLv hm hfr hlo (by omega) (by omega) htcR htsR hend
end JSS
end
section
/-! THE START: what the Statement gives of it, as the J machine's knowledge -/
def jv_flat : List Cond := flatC (Jvm.Cond.and given_1 narrow_1)
def jv_tm (i : Nat) : Term := Term.string (jv_str.getD i ("", 0, "")).1 (jv_str.getD i ("", 0, "")).2.1
theorem jv_fl1 : ∀ i, i < 20 → Cond.exactly (jv_tm i) "java/lang/String" ∈ jv_flat := by decide +kernel
theorem jv_fl2 : ∀ i, i < 20 → Cond.eq (.field (jv_tm i) "java/lang/String" "coder" "B") (.int 0) ∈ jv_flat := by decide +kernel
theorem jv_fl3 : ∀ i, i < 20 → Cond.arrayOf (.field (jv_tm i) "java/lang/String" "value" "[B") .byte ∈ jv_flat := by decide +kernel
theorem jv_fl4 : ∀ i, i < 20 → Cond.eq (.length (.field (jv_tm i) "java/lang/String" "value" "[B")) (.int (Int32.ofNat (jv_lens.getD i 0))) ∈ jv_flat := by decide +kernel
theorem jv_fl5 : ∀ i, i < 20 → ∀ j, j < jv_lens.getD i 0 → Cond.eq (.elem (.field (jv_tm i) "java/lang/String" "value" "[B") (.int (Int32.ofNat j))) (.int ((jv_byt.getD i []).getD j 0)) ∈ jv_flat := by decide +kernel
def jv_fp : List (List Nat) := [[0, 27, 36, 48, 61, 75, 89, 102, 119, 135, 154, 175, 195, 218, 243, 269, 295, 320, 349, 377],
  [27, 0, 37, 49, 62, 76, 90, 103, 120, 136, 155, 176, 196, 219, 244, 270, 296, 321, 350, 378],
  [36, 37, 0, 50, 63, 77, 91, 104, 121, 137, 156, 177, 197, 220, 245, 271, 297, 322, 351, 379],
  [48, 49, 50, 0, 64, 78, 92, 105, 122, 138, 157, 178, 198, 221, 246, 272, 298, 323, 352, 380],
  [61, 62, 63, 64, 0, 79, 93, 106, 123, 139, 158, 179, 199, 222, 247, 273, 299, 324, 353, 381],
  [75, 76, 77, 78, 79, 0, 94, 107, 124, 140, 159, 180, 200, 223, 248, 274, 300, 325, 354, 382],
  [89, 90, 91, 92, 93, 94, 0, 108, 125, 141, 160, 181, 201, 224, 249, 275, 301, 326, 355, 383],
  [102, 103, 104, 105, 106, 107, 108, 0, 126, 142, 161, 182, 202, 225, 250, 276, 302, 327, 356, 384],
  [119, 120, 121, 122, 123, 124, 125, 126, 0, 143, 162, 183, 203, 226, 251, 277, 303, 328, 357, 385],
  [135, 136, 137, 138, 139, 140, 141, 142, 143, 0, 163, 184, 204, 227, 252, 278, 304, 329, 358, 386],
  [154, 155, 156, 157, 158, 159, 160, 161, 162, 163, 0, 185, 205, 228, 253, 279, 305, 330, 359, 387],
  [175, 176, 177, 178, 179, 180, 181, 182, 183, 184, 185, 0, 206, 229, 254, 280, 306, 331, 360, 388],
  [195, 196, 197, 198, 199, 200, 201, 202, 203, 204, 205, 206, 0, 230, 255, 281, 307, 332, 361, 389],
  [218, 219, 220, 221, 222, 223, 224, 225, 226, 227, 228, 229, 230, 0, 256, 282, 308, 333, 362, 390],
  [243, 244, 245, 246, 247, 248, 249, 250, 251, 252, 253, 254, 255, 256, 0, 283, 309, 334, 363, 391],
  [269, 270, 271, 272, 273, 274, 275, 276, 277, 278, 279, 280, 281, 282, 283, 0, 310, 335, 364, 392],
  [295, 296, 297, 298, 299, 300, 301, 302, 303, 304, 305, 306, 307, 308, 309, 310, 0, 336, 365, 393],
  [320, 321, 322, 323, 324, 325, 326, 327, 328, 329, 330, 331, 332, 333, 334, 335, 336, 0, 366, 394],
  [349, 350, 351, 352, 353, 354, 355, 356, 357, 358, 359, 360, 361, 362, 363, 364, 365, 366, 0, 395],
  [377, 378, 379, 380, 381, 382, 383, 384, 385, 386, 387, 388, 389, 390, 391, 392, 393, 394, 395, 0]]
theorem jv_fl6_0 : ∀ j, j < 20 → 0 ≠ j → jv_flat[(jv_fp.getD 0 []).getD j 0]? = some (Cond.not (Cond.eq (jv_tm 0) (jv_tm j))) ∨ jv_flat[(jv_fp.getD 0 []).getD j 0]? = some (Cond.not (Cond.eq (jv_tm j) (jv_tm 0))) := by decide +kernel
theorem jv_fl6_1 : ∀ j, j < 20 → 1 ≠ j → jv_flat[(jv_fp.getD 1 []).getD j 0]? = some (Cond.not (Cond.eq (jv_tm 1) (jv_tm j))) ∨ jv_flat[(jv_fp.getD 1 []).getD j 0]? = some (Cond.not (Cond.eq (jv_tm j) (jv_tm 1))) := by decide +kernel
theorem jv_fl6_2 : ∀ j, j < 20 → 2 ≠ j → jv_flat[(jv_fp.getD 2 []).getD j 0]? = some (Cond.not (Cond.eq (jv_tm 2) (jv_tm j))) ∨ jv_flat[(jv_fp.getD 2 []).getD j 0]? = some (Cond.not (Cond.eq (jv_tm j) (jv_tm 2))) := by decide +kernel
theorem jv_fl6_3 : ∀ j, j < 20 → 3 ≠ j → jv_flat[(jv_fp.getD 3 []).getD j 0]? = some (Cond.not (Cond.eq (jv_tm 3) (jv_tm j))) ∨ jv_flat[(jv_fp.getD 3 []).getD j 0]? = some (Cond.not (Cond.eq (jv_tm j) (jv_tm 3))) := by decide +kernel
theorem jv_fl6_4 : ∀ j, j < 20 → 4 ≠ j → jv_flat[(jv_fp.getD 4 []).getD j 0]? = some (Cond.not (Cond.eq (jv_tm 4) (jv_tm j))) ∨ jv_flat[(jv_fp.getD 4 []).getD j 0]? = some (Cond.not (Cond.eq (jv_tm j) (jv_tm 4))) := by decide +kernel
theorem jv_fl6_5 : ∀ j, j < 20 → 5 ≠ j → jv_flat[(jv_fp.getD 5 []).getD j 0]? = some (Cond.not (Cond.eq (jv_tm 5) (jv_tm j))) ∨ jv_flat[(jv_fp.getD 5 []).getD j 0]? = some (Cond.not (Cond.eq (jv_tm j) (jv_tm 5))) := by decide +kernel
theorem jv_fl6_6 : ∀ j, j < 20 → 6 ≠ j → jv_flat[(jv_fp.getD 6 []).getD j 0]? = some (Cond.not (Cond.eq (jv_tm 6) (jv_tm j))) ∨ jv_flat[(jv_fp.getD 6 []).getD j 0]? = some (Cond.not (Cond.eq (jv_tm j) (jv_tm 6))) := by decide +kernel
theorem jv_fl6_7 : ∀ j, j < 20 → 7 ≠ j → jv_flat[(jv_fp.getD 7 []).getD j 0]? = some (Cond.not (Cond.eq (jv_tm 7) (jv_tm j))) ∨ jv_flat[(jv_fp.getD 7 []).getD j 0]? = some (Cond.not (Cond.eq (jv_tm j) (jv_tm 7))) := by decide +kernel
theorem jv_fl6_8 : ∀ j, j < 20 → 8 ≠ j → jv_flat[(jv_fp.getD 8 []).getD j 0]? = some (Cond.not (Cond.eq (jv_tm 8) (jv_tm j))) ∨ jv_flat[(jv_fp.getD 8 []).getD j 0]? = some (Cond.not (Cond.eq (jv_tm j) (jv_tm 8))) := by decide +kernel
theorem jv_fl6_9 : ∀ j, j < 20 → 9 ≠ j → jv_flat[(jv_fp.getD 9 []).getD j 0]? = some (Cond.not (Cond.eq (jv_tm 9) (jv_tm j))) ∨ jv_flat[(jv_fp.getD 9 []).getD j 0]? = some (Cond.not (Cond.eq (jv_tm j) (jv_tm 9))) := by decide +kernel
theorem jv_fl6_10 : ∀ j, j < 20 → 10 ≠ j → jv_flat[(jv_fp.getD 10 []).getD j 0]? = some (Cond.not (Cond.eq (jv_tm 10) (jv_tm j))) ∨ jv_flat[(jv_fp.getD 10 []).getD j 0]? = some (Cond.not (Cond.eq (jv_tm j) (jv_tm 10))) := by decide +kernel
theorem jv_fl6_11 : ∀ j, j < 20 → 11 ≠ j → jv_flat[(jv_fp.getD 11 []).getD j 0]? = some (Cond.not (Cond.eq (jv_tm 11) (jv_tm j))) ∨ jv_flat[(jv_fp.getD 11 []).getD j 0]? = some (Cond.not (Cond.eq (jv_tm j) (jv_tm 11))) := by decide +kernel
theorem jv_fl6_12 : ∀ j, j < 20 → 12 ≠ j → jv_flat[(jv_fp.getD 12 []).getD j 0]? = some (Cond.not (Cond.eq (jv_tm 12) (jv_tm j))) ∨ jv_flat[(jv_fp.getD 12 []).getD j 0]? = some (Cond.not (Cond.eq (jv_tm j) (jv_tm 12))) := by decide +kernel
theorem jv_fl6_13 : ∀ j, j < 20 → 13 ≠ j → jv_flat[(jv_fp.getD 13 []).getD j 0]? = some (Cond.not (Cond.eq (jv_tm 13) (jv_tm j))) ∨ jv_flat[(jv_fp.getD 13 []).getD j 0]? = some (Cond.not (Cond.eq (jv_tm j) (jv_tm 13))) := by decide +kernel
theorem jv_fl6_14 : ∀ j, j < 20 → 14 ≠ j → jv_flat[(jv_fp.getD 14 []).getD j 0]? = some (Cond.not (Cond.eq (jv_tm 14) (jv_tm j))) ∨ jv_flat[(jv_fp.getD 14 []).getD j 0]? = some (Cond.not (Cond.eq (jv_tm j) (jv_tm 14))) := by decide +kernel
theorem jv_fl6_15 : ∀ j, j < 20 → 15 ≠ j → jv_flat[(jv_fp.getD 15 []).getD j 0]? = some (Cond.not (Cond.eq (jv_tm 15) (jv_tm j))) ∨ jv_flat[(jv_fp.getD 15 []).getD j 0]? = some (Cond.not (Cond.eq (jv_tm j) (jv_tm 15))) := by decide +kernel
theorem jv_fl6_16 : ∀ j, j < 20 → 16 ≠ j → jv_flat[(jv_fp.getD 16 []).getD j 0]? = some (Cond.not (Cond.eq (jv_tm 16) (jv_tm j))) ∨ jv_flat[(jv_fp.getD 16 []).getD j 0]? = some (Cond.not (Cond.eq (jv_tm j) (jv_tm 16))) := by decide +kernel
theorem jv_fl6_17 : ∀ j, j < 20 → 17 ≠ j → jv_flat[(jv_fp.getD 17 []).getD j 0]? = some (Cond.not (Cond.eq (jv_tm 17) (jv_tm j))) ∨ jv_flat[(jv_fp.getD 17 []).getD j 0]? = some (Cond.not (Cond.eq (jv_tm j) (jv_tm 17))) := by decide +kernel
theorem jv_fl6_18 : ∀ j, j < 20 → 18 ≠ j → jv_flat[(jv_fp.getD 18 []).getD j 0]? = some (Cond.not (Cond.eq (jv_tm 18) (jv_tm j))) ∨ jv_flat[(jv_fp.getD 18 []).getD j 0]? = some (Cond.not (Cond.eq (jv_tm j) (jv_tm 18))) := by decide +kernel
theorem jv_fl6_19 : ∀ j, j < 20 → 19 ≠ j → jv_flat[(jv_fp.getD 19 []).getD j 0]? = some (Cond.not (Cond.eq (jv_tm 19) (jv_tm j))) ∨ jv_flat[(jv_fp.getD 19 []).getD j 0]? = some (Cond.not (Cond.eq (jv_tm j) (jv_tm 19))) := by decide +kernel
theorem jv_fl6 : ∀ i, i < 20 → ∀ j, j < 20 → i ≠ j → Cond.not (Cond.eq (jv_tm i) (jv_tm j)) ∈ jv_flat ∨ Cond.not (Cond.eq (jv_tm j) (jv_tm i)) ∈ jv_flat := by
  intro i hi j hj hij
  match i, hi, hij with
  | 0, _, hij => exact (jv_fl6_0 j hj hij).imp List.mem_of_getElem? List.mem_of_getElem?
  | 1, _, hij => exact (jv_fl6_1 j hj hij).imp List.mem_of_getElem? List.mem_of_getElem?
  | 2, _, hij => exact (jv_fl6_2 j hj hij).imp List.mem_of_getElem? List.mem_of_getElem?
  | 3, _, hij => exact (jv_fl6_3 j hj hij).imp List.mem_of_getElem? List.mem_of_getElem?
  | 4, _, hij => exact (jv_fl6_4 j hj hij).imp List.mem_of_getElem? List.mem_of_getElem?
  | 5, _, hij => exact (jv_fl6_5 j hj hij).imp List.mem_of_getElem? List.mem_of_getElem?
  | 6, _, hij => exact (jv_fl6_6 j hj hij).imp List.mem_of_getElem? List.mem_of_getElem?
  | 7, _, hij => exact (jv_fl6_7 j hj hij).imp List.mem_of_getElem? List.mem_of_getElem?
  | 8, _, hij => exact (jv_fl6_8 j hj hij).imp List.mem_of_getElem? List.mem_of_getElem?
  | 9, _, hij => exact (jv_fl6_9 j hj hij).imp List.mem_of_getElem? List.mem_of_getElem?
  | 10, _, hij => exact (jv_fl6_10 j hj hij).imp List.mem_of_getElem? List.mem_of_getElem?
  | 11, _, hij => exact (jv_fl6_11 j hj hij).imp List.mem_of_getElem? List.mem_of_getElem?
  | 12, _, hij => exact (jv_fl6_12 j hj hij).imp List.mem_of_getElem? List.mem_of_getElem?
  | 13, _, hij => exact (jv_fl6_13 j hj hij).imp List.mem_of_getElem? List.mem_of_getElem?
  | 14, _, hij => exact (jv_fl6_14 j hj hij).imp List.mem_of_getElem? List.mem_of_getElem?
  | 15, _, hij => exact (jv_fl6_15 j hj hij).imp List.mem_of_getElem? List.mem_of_getElem?
  | 16, _, hij => exact (jv_fl6_16 j hj hij).imp List.mem_of_getElem? List.mem_of_getElem?
  | 17, _, hij => exact (jv_fl6_17 j hj hij).imp List.mem_of_getElem? List.mem_of_getElem?
  | 18, _, hij => exact (jv_fl6_18 j hj hij).imp List.mem_of_getElem? List.mem_of_getElem?
  | 19, _, hij => exact (jv_fl6_19 j hj hij).imp List.mem_of_getElem? List.mem_of_getElem?
  | i + 20, hi, _ => omega
theorem jv_fl7 : Cond.eq (.static "java/lang/String" "COMPACT_STRINGS" "Z") (.int 1) ∈ jv_flat := by decide +kernel
theorem jv_fl8 : Cond.isRef (.static "jdk/internal/util/Preconditions" "SIOOBE_FORMATTER" "Ljava/util/function/BiFunction;") ∈ jv_flat := by decide +kernel
theorem jv_tb1 : Cond.laysStatic "java/lang/String" "COMPACT_STRINGS" "Z" ∈ lw_tbl := by decide +kernel
theorem jv_tb2 : Cond.laysStatic "jdk/internal/util/Preconditions" "SIOOBE_FORMATTER" "Ljava/util/function/BiFunction;" ∈ lw_tbl := by decide +kernel
theorem jv_tb3 : ∀ i, i < 20 → Cond.stringRef (jv_str.getD i ("", 0, "")).1 (jv_str.getD i ("", 0, "")).2.1 (jv_str.getD i ("", 0, "")).2.2 ∈ lw_tbl := by decide +kernel
theorem jv_lens_lt : ∀ i, i < 20 → jv_lens.getD i 0 < 2 ^ 31 := by decide +kernel
set_option maxHeartbeats 4000000 in
set_option maxRecDepth 100000 in
theorem jv_begin {s : State} {b L : Nat} {xs : Nat → Int32} (hts : ∀ w ∈ lw_tbl, w.before #[Value.ref b] s = true) (hX : va_X b L xs s s.heap) (hbl : b < s.heap.size) (hgv : (Jvm.Cond.and given_1 narrow_1).before #[Value.ref b] s = true) :
    ∃ (D : va_G) (dA : Nat → ClassId) (adK adV : Nat → Nat), jv_Kn D dA (s.heap.size, b, adK) adV L xs s := by
  have hg : ∀ w ∈ jv_flat, w.before #[Value.ref b] s = true := flat_of_before _ hgv
  have hT : ∀ w ∈ jv_T, w.before #[Value.ref b] s = true := fun w hw => hts w (List.mem_filter.mp hw).1
  have hA : ∀ a : Nat, a < s.heap.size → ¬ (fun q : Nat => s.heap.size ≤ q) a := fun a h => Nat.not_le.mpr h
  have kn : ∀ c : Nat, c < 9 → ∃ (cC : ClassId) (iS : Nat → Nat), u_Kn s (jv_own c) (jv_fT c) (jv_fn c) cC iS := fun c h => u_known (n := jv_fn c) hT (jv_ws_in c h) (hT _ (jv_in_ok (jv_inst_ok c h).1))
  obtain ⟨c0, f0, -⟩ := kn 0 (by decide)
  have hcl : ∀ c : Nat, ∃ q : ClassId × (Nat → Nat), c < 9 → u_Kn s (jv_own c) (jv_fT c) (jv_fn c) q.1 q.2 := by
    intro c
    by_cases h : c < 9
    · obtain ⟨cC, iS, hk⟩ := kn c h
      exact ⟨(cC, iS), fun _ => hk⟩
    · exact ⟨(c0, f0), fun q => absurd q h⟩
  obtain ⟨F, hF⟩ := Classical.axiomOfChoice hcl
  obtain ⟨cI, kI, coI, i1, i2, i3⟩ := Cond.arrayClass_spec (args := #[Value.ref b]) (first := s) (o := none) (s := s) (idx := []) (hT _ (jv_in_ok jv_arrI))
  obtain ⟨cZ, kZ, coZ, z1, z2, z3⟩ := Cond.arrayClass_spec (args := #[Value.ref b]) (first := s) (o := none) (s := s) (idx := []) (hT _ (jv_in_ok jv_arrZ))
  obtain ⟨coT, cT, kT, t1, t2, t3, t4, t5⟩ := Cond.arrayOver_spec (args := #[Value.ref b]) (first := s) (o := none) (s := s) (idx := []) (hts _ jv_arrT6)
  obtain ⟨coR, cR, kR, r1, r2, r3, r4, r5⟩ := Cond.arrayOver_spec (args := #[Value.ref b]) (first := s) (o := none) (s := s) (idx := []) (hts _ jv_arrT5)
  obtain ⟨adK, adV, hS, hev⟩ := vk_Sof (args := #[Value.ref b]) (s := s) (N := 20) (tm := jv_tm) (len := jv_lens) (byt := jv_byt) (A := fun q => s.heap.size ≤ q) jv_lens_lt (fun i hi => hg _ (jv_fl1 i hi)) (fun i hi => hg _ (jv_fl2 i hi)) (fun i hi => hg _ (jv_fl3 i hi)) (fun i hi => hg _ (jv_fl4 i hi)) (fun i hi j hj => hg _ (jv_fl5 i hi j hj)) (fun i j hi hj hij => (jv_fl6 i hi j hj hij).imp (hg _) (hg _)) hA
  refine ⟨(fun c => (F c).1, fun c => (F c).2), fun k => match k with
    | 0 => cI
    | 1 => cZ
    | 2 => cT
    | _ => cR, adK, adV, ⟨?_, ?_⟩, hX, hbl, Nat.le_refl _, hS, ?_, va_AO.of (hts _ jv_arrT6), va_AO.of (hts _ jv_arrT5), ?_, ?_, ?_⟩
  · intro c q hq
    have hc9 : c < 9 := (List.getElem?_eq_some_iff.mp hq).1
    have hq2 := (jv_cls_ok c hc9).symm.trans hq
    cases hq2
    exact hF c hc9
  · intro k q hq
    match k, hq with
    | 0, hq => cases hq; exact ⟨fun n z => ⟨fun k h => (by cases h), kI, i2, coI, i3⟩, i1⟩
    | 1, hq => cases hq; exact ⟨fun n z => ⟨fun k h => (by cases h), kZ, z2, coZ, z3⟩, z1⟩
    | 2, hq => cases hq; exact ⟨fun n z => ⟨fun k h => (by cases h), kT, t3, coT, t4⟩, kT, coT, t3, t4, t1, t5⟩
    | 3, hq => cases hq; exact ⟨fun n z => ⟨fun k h => (by cases h), kR, r3, coR, r4⟩, kR, coR, r3, r4, r1, r5⟩
    | k + 4, hq => simp at hq
  · intro i q hq
    have hi : i < 20 := (List.getElem?_eq_some_iff.mp hq).1
    have hd : jv_str.getD i ("", 0, "") = q := by rw [List.getD_eq_getElem?_getD, hq]; rfl
    have h1 := hts _ (jv_tb3 i hi)
    have h2 := hev i hi
    unfold jv_tm at h2
    rw [hd] at h1 h2
    exact vk_R.of h1 h2
  · intro w hw
    have hw2 := hts w (jv_nests_in w hw)
    simp only [jv_nests, List.mem_cons, List.not_mem_nil, or_false] at hw
    rcases hw with rfl | rfl | rfl | rfl | rfl <;> exact va_Nw.of rfl hw2
  · exact va_Zof (hts _ jv_tb1) (hT _ jw_ini0) (va_eqi (hg _ jv_fl7)) hA
  · obtain ⟨v, hv, hr⟩ := Cond.isRef_spec (args := #[Value.ref b]) (first := s) (o := none) (s := s) (idx := []) (hg _ jv_fl8)
    refine ⟨v, ?_, va_Zof (hts _ jv_tb2) (hT _ jw_ini3) hv hA⟩
    cases v <;> first | exact Or.inl rfl | exact Or.inr ⟨_, rfl⟩ | cases hr
/-- the J machine's start -/
def jv_L0 : List (Option Value) := [some (.ref 1000000), none, none, none, none, none, none, none]
def jv_h0 (L : Nat) (xs : Nat → Int32) : jv_H := (fun _ => .inl (9, L, xs), 0, 0)
theorem jv_fix0 (L : Nat) (xs : Nat → Int32) : jv_fix L xs (jv_h0 L xs) := rfl
/-- the law's run in the J machine answers 1, within the room -/
def jv_law (N : Nat) : Prop := ∀ (L : Nat) (xs : Nat → Int32), L ≤ N → ∃ (n : Nat) (h' : jv_H), jv_run n 271 0 jv_L0 [] (jv_h0 L xs) = some (some (.int 1), h') ∧ h'.2.1 ≤ 600000 ∧ h'.2.2 ≤ 7302250
end
section
/-! THE S MACHINE: the J machine over numbers that stand for values: a whole number below 2^32 is itself; places from 2^32 on; the script's cells, its length and its first cell's low six bits are symbols, with the least and greatest number that each can be -/
abbrev sI : Type := Nat × Nat × Nat × Nat
abbrev sH : Type := (Nat → Nat × Nat × (Nat → Nat)) × Nat × Nat
abbrev sE : Type := List (Nat × Nat)
abbrev sF : Type := Nat × Nat × List sI × List Nat × List Nat
abbrev sM : Nat := 4294967296
abbrev sREF : Nat := 4294967296
abbrev sSYM : Nat := 17179869184
abbrev sUNK : Nat := 17179869284
abbrev sUNS : Nat := 17179869285
abbrev sNUL : Nat := 17179869286
abbrev sFLT : Nat := 1099511627776
abbrev sDBL : Nat := 1208925819614629174706176
noncomputable def s_frc (n : Nat) (k : Nat → Bool) : Bool := Nat.rec (k 0) (fun m _ => k (Nat.succ m)) n
noncomputable def s_nth (l : List Nat) : Nat → Nat := List.rec (motive := fun _ => Nat → Nat) (fun _ => sUNS) (fun a _ ih i => Nat.rec (motive := fun _ => Nat) a (fun j _ => ih j) i) l
noncomputable def s_set (l : List Nat) : Nat → Nat → List Nat := List.rec (motive := fun _ => Nat → Nat → List Nat) (fun _ _ => []) (fun a t ih i v => Nat.rec (motive := fun _ => List Nat) (v :: t) (fun j _ => a :: ih j v) i) l
noncomputable def s_iv (l : sE) : Nat → Nat × Nat := List.rec (motive := fun _ => Nat → Nat × Nat) (fun _ => (0, 4294967295)) (fun a _ ih i => Nat.rec (motive := fun _ => Nat × Nat) a (fun j _ => ih j) i) l
noncomputable def s_eset (l : sE) : Nat → Nat × Nat → sE := List.rec (motive := fun _ => Nat → Nat × Nat → sE) (fun _ _ => []) (fun a t ih i v => Nat.rec (motive := fun _ => sE) (v :: t) (fun j _ => a :: ih j v) i) l
noncomputable def s_find (l : List sI) : Nat → Nat → Option (List sI) := List.rec (motive := fun _ => Nat → Nat → Option (List sI)) (fun _ _ => none) (fun e t ih pc tgt => cond (Nat.beq pc tgt) (some (e :: t)) (ih (pc + e.2.2.2) tgt)) l
def s_bias (x : Nat) : Nat := cond (Nat.blt x 2147483648) (x + 2147483648) (x - 2147483648)
def s_isI (x : Nat) : Bool := Nat.blt x sM || (Nat.ble sSYM x && Nat.ble x sUNK)
def s_isR (x : Nat) : Bool := Nat.ble sREF x && Nat.blt x sSYM
def s_isD (x : Nat) : Bool := Nat.ble sDBL x
def s_isS (x : Nat) : Bool := Nat.ble sSYM x && Nat.blt x 17179869192
/-- a symbol that can be one number alone is that number -/
noncomputable def s_res (env : sE) (x : Nat) : Nat := cond (Nat.blt x sM) x (cond (s_isS x) (cond (Nat.beq (s_iv env (x - sSYM)).1 (s_iv env (x - sSYM)).2) (s_bias (s_iv env (x - sSYM)).1) x) x)
/-- is x below y? -/
noncomputable def s_lt (env : sE) (x y : Nat) (kt kf : sE → Bool) : Bool :=
  cond (Nat.blt x sM) (cond (Nat.blt y sM) (cond (Nat.blt (s_bias x) (s_bias y)) (kt env) (kf env))
      (cond (s_isS y) (cond (Nat.blt (s_bias x) (s_iv env (y - sSYM)).1) (kt env) (cond (Nat.ble (s_iv env (y - sSYM)).2 (s_bias x)) (kf env) (kt (s_eset env (y - sSYM) (s_bias x + 1, (s_iv env (y - sSYM)).2)) && kf (s_eset env (y - sSYM) ((s_iv env (y - sSYM)).1, s_bias x))))) false))
    (cond (s_isS x && Nat.blt y sM) (cond (Nat.blt (s_iv env (x - sSYM)).2 (s_bias y)) (kt env) (cond (Nat.ble (s_bias y) (s_iv env (x - sSYM)).1) (kf env) (kt (s_eset env (x - sSYM) ((s_iv env (x - sSYM)).1, s_bias y - 1)) && kf (s_eset env (x - sSYM) (s_bias y, (s_iv env (x - sSYM)).2))))) false)
/-- is the symbol x the number y? -/
noncomputable def s_eq1 (env : sE) (k c : Nat) (kt kf : sE → Bool) : Bool :=
  cond (Nat.blt c (s_iv env k).1 || Nat.blt (s_iv env k).2 c) (kf env) (cond (Nat.beq (s_iv env k).1 (s_iv env k).2) (kt env)
    (kt (s_eset env k (c, c)) && (cond (Nat.beq c (s_iv env k).1) (kf (s_eset env k (c + 1, (s_iv env k).2))) (cond (Nat.beq c (s_iv env k).2) (kf (s_eset env k ((s_iv env k).1, c - 1))) (kf (s_eset env k ((s_iv env k).1, c - 1)) && kf (s_eset env k (c + 1, (s_iv env k).2)))))))
noncomputable def s_eq (env : sE) (x y : Nat) (kt kf : sE → Bool) : Bool :=
  cond (Nat.blt x sM) (cond (Nat.blt y sM) (cond (Nat.beq x y) (kt env) (kf env)) (cond (s_isS y) (s_eq1 env (y - sSYM) (s_bias x) kt kf) false))
    (cond (s_isS x && Nat.blt y sM) (s_eq1 env (x - sSYM) (s_bias y) kt kf) false)
noncomputable def s_cc (env : sE) (cc x y : Nat) (kt kf : sE → Bool) : Bool :=
  cond (Nat.beq cc 0) (s_eq env x y kt kf) (cond (Nat.beq cc 1) (s_eq env x y kf kt) (cond (Nat.beq cc 2) (s_lt env x y kt kf) (cond (Nat.beq cc 3) (s_lt env x y kf kt) (cond (Nat.beq cc 4) (s_lt env y x kt kf) (s_lt env y x kf kt)))))
noncomputable def s_all (f : Nat → Bool) (lo : Nat) (n : Nat) : Bool := Nat.rec (motive := fun _ => Bool) true (fun i ih => f (lo + i) && ih) n
/-- x as a number: the cases are gone through -/
noncomputable def s_conc (env : sE) (x : Nat) (k : Nat → sE → Bool) : Bool :=
  cond (Nat.blt x sM) (k x env) (cond (s_isS x) (cond (Nat.ble ((s_iv env (x - sSYM)).2 - (s_iv env (x - sSYM)).1) 64)
    (s_all (fun v => s_frc v (fun v => cond (Nat.blt v sM) (k (s_bias v) (s_eset env (x - sSYM) (v, v))) false)) (s_iv env (x - sSYM)).1 ((s_iv env (x - sSYM)).2 - (s_iv env (x - sSYM)).1 + 1)) false) false)
def s_up (f : Nat → Nat) (i v : Nat) : Nat → Nat := fun j => cond (Nat.beq j i) v (f j)
def s_put (H : sH) (p : Nat) (c : Nat × Nat × (Nat → Nat)) : sH := (fun q => cond (Nat.beq q p) c (H.1 q), H.2)
def s_add (H : sH) (c : Nat × Nat × (Nat → Nat)) (n : Nat) : sH := (fun q => cond (Nat.beq q H.2.1) c (H.1 q), H.2.1 + 1, H.2.2 + n)
def s_def (ty : FieldType) : Nat := match defaultValue ty with
  | .int _ => 0
  | _ => sNUL
abbrev sRun : Type := sE → sF → List sF → sH → Bool
section SOPS
variable (run : sRun) (env : sE) (y pc : Nat) (t : List sI) (a b : Nat) (SL st : List Nat) (rest : List sF) (H : sH)
noncomputable def so_const : Bool := run env (y, pc, t, SL, a :: st) rest H
noncomputable def so_iload : Bool := cond (s_isI (s_nth SL a)) (run env (y, pc, t, SL, s_nth SL a :: st) rest H) false
noncomputable def so_aload : Bool := cond (s_isR (s_nth SL a)) (run env (y, pc, t, SL, s_nth SL a :: st) rest H) false
noncomputable def so_dload : Bool := cond (s_isD (s_nth SL a)) (run env (y, pc, t, SL, s_nth SL a :: st) rest H) false
noncomputable def s_free (SL : List Nat) (a : Nat) : Bool := Nat.blt a SL.length && Nat.rec (motive := fun _ => Bool) true (fun j _ => !(s_isD (s_nth SL j))) a
noncomputable def so_istore : Bool := match st with
  | x :: r => cond (s_isI x && s_free SL a) (run env (y, pc, t, s_set SL a x, r) rest H) false
  | _ => false
noncomputable def so_astore : Bool := match st with
  | x :: r => cond (s_isR x && s_free SL a) (run env (y, pc, t, s_set SL a x, r) rest H) false
  | _ => false
noncomputable def so_dstore : Bool := match st with
  | x :: r => cond (s_isD x && (s_free SL a && Nat.blt (a + 1) SL.length)) (run env (y, pc, t, s_set (s_set SL a x) (a + 1) sUNS, r) rest H) false
  | _ => false
noncomputable def so_iinc : Bool := s_conc env (s_res env (s_nth SL a)) (fun x env => cond (s_free SL a) (s_frc ((x + b) % sM) (fun v => run env (y, pc, t, s_set SL a v, st) rest H)) false)
noncomputable def so_getf : Bool := match st with
  | p :: r => cond (s_isR p && (Nat.blt (p - sREF) H.2.1 && (Nat.beq (H.1 (p - sREF)).1 (16 + a) && Nat.blt b (H.1 (p - sREF)).2.1))) (s_frc ((H.1 (p - sREF)).2.2 b) (fun v => run env (y, pc, t, SL, v :: r) rest H)) false
  | _ => false
noncomputable def so_putf (ok : Nat → Bool) : Bool := match st with
  | x :: p :: r => cond (ok x && (s_isR p && (Nat.blt (p - sREF) H.2.1 && (Nat.beq (H.1 (p - sREF)).1 (16 + a) && Nat.blt b (H.1 (p - sREF)).2.1)))) (run env (y, pc, t, SL, r) rest (s_put H (p - sREF) ((H.1 (p - sREF)).1, (H.1 (p - sREF)).2.1, s_up (H.1 (p - sREF)).2.2 b x))) false
  | _ => false
def s_is01 (x : Nat) : Bool := Nat.blt x 2
end SOPS
noncomputable def s_goto (meth : Nat → List sI) (run : sRun) (env : sE) (y tgt : Nat) (SL st : List Nat) (rest : List sF) (H : sH) : Bool := match s_find (meth y) 0 tgt with
  | some l => run env (y, tgt, l, SL, st) rest H
  | none => false
section SOPS2
variable (meth : Nat → List sI) (run : sRun) (env : sE) (y pc : Nat) (t : List sI) (a b : Nat) (SL st : List Nat) (rest : List sF) (H : sH)
noncomputable def so_if : Bool := match st with
  | x :: r => s_cc env a (s_res env x) 0 (fun env => s_goto meth run env y b SL r rest H) (fun env => run env (y, pc, t, SL, r) rest H)
  | _ => false
noncomputable def so_icmp : Bool := match st with
  | v :: x :: r => s_cc env a (s_res env x) (s_res env v) (fun env => s_goto meth run env y b SL r rest H) (fun env => run env (y, pc, t, SL, r) rest H)
  | _ => false
/-- an operation on two numbers -/
noncomputable def so_two (f : Nat → Nat → Nat) (ok : Nat → Nat → Bool) : Bool := match st with
  | v :: x :: r => s_conc env (s_res env x) (fun x env => s_conc env (s_res env v) (fun v env => cond (ok x v) (s_frc (f x v) (fun z => run env (y, pc, t, SL, z :: r) rest H)) false))
  | _ => false
noncomputable def so_iand : Bool := match st with
  | v :: x :: r => cond (Nat.blt x sM && Nat.blt v sM) (s_frc (Nat.land x v) (fun z => run env (y, pc, t, SL, z :: r) rest H)) (cond (Nat.beq x sSYM && Nat.beq v 63) (run env (y, pc, t, SL, 17179869191 :: r) rest H) (cond (s_isI x && s_isI v) (run env (y, pc, t, SL, sUNK :: r) rest H) false))
  | _ => false
noncomputable def so_ishr : Bool := match st with
  | v :: x :: r => cond (s_isI x && s_isI v) (run env (y, pc, t, SL, sUNK :: r) rest H) false
  | _ => false
noncomputable def so_iald : Bool := match st with
  | i :: p :: r => cond (Nat.beq p 4295967296 && Nat.beq y 271) (s_conc env (s_res env i) (fun i env => cond (Nat.blt i 6 && Nat.blt (s_bias i) (s_iv env 6).1) (run env (y, pc, t, SL, (sSYM + i) :: r) rest H) false))
      (cond (s_isR p && (Nat.blt (p - sREF) H.2.1 && Nat.beq (H.1 (p - sREF)).1 0)) (s_conc env (s_res env i) (fun i env => cond (Nat.blt i (H.1 (p - sREF)).2.1 && Nat.blt i 2147483648) (s_frc ((H.1 (p - sREF)).2.2 i) (fun v => run env (y, pc, t, SL, v :: r) rest H)) false)) false)
  | _ => false
noncomputable def so_bald : Bool := match st with
  | i :: p :: r => cond (s_isR p && (Nat.blt (p - sREF) H.2.1 && Nat.beq (H.1 (p - sREF)).1 1)) (s_conc env (s_res env i) (fun i env => cond (Nat.blt i (H.1 (p - sREF)).2.1 && Nat.blt i 2147483648) (s_frc ((H.1 (p - sREF)).2.2 i) (fun v => run env (y, pc, t, SL, v :: r) rest H)) false)) false
  | _ => false
noncomputable def so_aald : Bool := match st with
  | i :: p :: r => cond (s_isR p && (Nat.blt (p - sREF) H.2.1 && (Nat.beq (H.1 (p - sREF)).1 2 || Nat.beq (H.1 (p - sREF)).1 3))) (s_conc env (s_res env i) (fun i env => cond (Nat.blt i (H.1 (p - sREF)).2.1 && Nat.blt i 2147483648) (s_frc ((H.1 (p - sREF)).2.2 i) (fun v => cond (s_isR v) (run env (y, pc, t, SL, v :: r) rest H) false)) false)) false
  | _ => false
noncomputable def so_ast (kd : Nat) (ok : Nat → Bool) : Bool := match st with
  | x :: i :: p :: r => cond (ok x && (s_isR p && (Nat.blt (p - sREF) H.2.1 && Nat.beq (H.1 (p - sREF)).1 kd))) (s_conc env (s_res env i) (fun i env => cond (Nat.blt i (H.1 (p - sREF)).2.1 && Nat.blt i 2147483648) (run env (y, pc, t, SL, r) rest (s_put H (p - sREF) (kd, (H.1 (p - sREF)).2.1, s_up (H.1 (p - sREF)).2.2 i x))) false)) false
  | _ => false
noncomputable def so_aast : Bool := match st with
  | x :: i :: p :: r => cond (s_isR x && (Nat.blt (x - sREF) H.2.1 && (s_isR p && (Nat.blt (p - sREF) H.2.1 && ((Nat.beq (H.1 (p - sREF)).1 2 && Nat.beq (H.1 (x - sREF)).1 22) || (Nat.beq (H.1 (p - sREF)).1 3 && Nat.beq (H.1 (x - sREF)).1 21)))))) (s_conc env (s_res env i) (fun i env => cond (Nat.blt i (H.1 (p - sREF)).2.1 && Nat.blt i 2147483648) (run env (y, pc, t, SL, r) rest (s_put H (p - sREF) ((H.1 (p - sREF)).1, (H.1 (p - sREF)).2.1, s_up (H.1 (p - sREF)).2.2 i x))) false)) false
  | _ => false
noncomputable def so_alen : Bool := match st with
  | p :: r => cond (Nat.beq p 4295967296 && Nat.beq y 271) (run env (y, pc, t, SL, 17179869190 :: r) rest H) (cond (s_isR p && (Nat.blt (p - sREF) H.2.1 && (Nat.blt (H.1 (p - sREF)).1 4 && Nat.blt (H.1 (p - sREF)).2.1 2147483648))) (s_frc (H.1 (p - sREF)).2.1 (fun v => run env (y, pc, t, SL, v :: r) rest H)) false)
  | _ => false
noncomputable def so_new : Bool := cond (Nat.blt H.2.1 600000) (s_frc (H.2.1 + sREF) (fun v => run env (y, pc, t, SL, v :: st) rest (s_add H (16 + a, jv_fn a, fun j => s_def (jv_fty a j)) (jv_fn a)))) false
noncomputable def so_newa (dv : Nat) : Bool := match st with
  | n :: r => cond (Nat.blt H.2.1 600000) (s_conc env (s_res env n) (fun n env => cond (Nat.ble n 100000) (s_frc (H.2.1 + sREF) (fun v => run env (y, pc, t, SL, v :: r) rest (s_add H (a, n, fun _ => dv) n))) false)) false
  | _ => false
noncomputable def so_dup : Bool := match st with
  | x :: r => cond (s_isI x || s_isR x) (run env (y, pc, t, SL, x :: x :: r) rest H) false
  | _ => false
noncomputable def so_dup2 : Bool := match st with
  | x :: p :: r => cond (s_isI x && s_isR p) (run env (y, pc, t, SL, x :: p :: x :: p :: r) rest H) false
  | _ => false
noncomputable def so_pop : Bool := match st with
  | x :: r => cond (s_isI x || s_isR x) (run env (y, pc, t, SL, r) rest H) false
  | _ => false
noncomputable def s_noD (l : List Nat) : Bool := List.rec (motive := fun _ => Bool) true (fun x _ ih => Nat.blt x sDBL && ih) l
noncomputable def s_take (l : List Nat) : Nat → List Nat := List.rec (motive := fun _ => Nat → List Nat) (fun _ => []) (fun x _ ih n => Nat.rec (motive := fun _ => List Nat) [] (fun m _ => x :: ih m) n) l
noncomputable def s_drop (l : List Nat) : Nat → List Nat := List.rec (motive := fun _ => Nat → List Nat) (fun _ => []) (fun x t ih n => Nat.rec (motive := fun _ => List Nat) (x :: t) (fun m _ => ih m) n) l
noncomputable def s_rev (l : List Nat) : List Nat → List Nat := List.rec (motive := fun _ => List Nat → List Nat) (fun acc => acc) (fun x _ ih acc => ih (x :: acc)) l
noncomputable def s_uns (n : Nat) : List Nat := Nat.rec (motive := fun _ => List Nat) [] (fun _ ih => sUNS :: ih) n
/-- a call: a is the method, b its words of arguments + 16 times its locals + 1024 times (its receiver's class + 1, 0 if static) -/
noncomputable def so_call : Bool :=
  cond (s_noD st && (Nat.ble (b % 16) st.length && (Nat.ble st.length (b % 16 + 8) && (cond (Nat.beq (b / 1024) 0) true (s_isR (s_nth st (b % 16 - 1)) && (Nat.blt (s_nth st (b % 16 - 1) - sREF) H.2.1 && Nat.beq (H.1 (s_nth st (b % 16 - 1) - sREF)).1 (15 + b / 1024)))))))
    (run env (a, 0, meth a, s_rev (s_take st (b % 16)) (s_uns (b / 16 % 64 - b % 16)), []) ((y, pc, t, SL, s_drop st (b % 16)) :: rest) H) false
noncomputable def so_obj : Bool := match st with
  | p :: r => cond (s_isR p && (s_noD r && Nat.ble r.length 8)) (run env (y, pc, t, SL, r) rest H) false
  | _ => false
noncomputable def so_slen : Bool := match st with
  | p :: r => cond (s_isR p && (s_noD r && Nat.ble r.length 8)) (match jv_tix (p - sREF) with
    | some i => run env (y, pc, t, SL, (jv_byt.getD i []).length :: r) rest H
    | none => false) false
  | _ => false
noncomputable def so_sat : Bool := match st with
  | i :: p :: r => cond (s_isR p && (s_noD r && Nat.ble r.length 8)) (match jv_tix (p - sREF) with
    | some k => s_conc env (s_res env i) (fun i env => cond (Nat.blt i (jv_byt.getD k []).length) (s_frc ((jv_byt.getD k []).getD i 0).toUInt32.toNat (fun v => run env (y, pc, t, SL, v :: r) rest H)) false)
    | none => false) false
  | _ => false
/-- a return; at the law's own end the answer is 1, and the room is kept -/
noncomputable def so_ret (ok : Nat → Bool) : Bool := match st with
  | [x] => cond (ok x) (match rest with
    | [] => Nat.beq (s_res env x) 1 && (Nat.ble H.2.1 600000 && Nat.ble H.2.2 7302250)
    | (y2, pc2, t2, SL2, st2) :: rest2 => run env (y2, pc2, t2, SL2, x :: st2) rest2 H) false
  | _ => false
noncomputable def so_vret : Bool := match st with
  | [] => match rest with
    | [] => false
    | g :: rest2 => run env g rest2 H
  | _ => false
noncomputable def so_tab : Bool := match st with
  | x :: r => match jv_code y a with
    | some (.tableswitch d lo hi offs, _) => s_lt env (s_res env x) (Int32.ofInt lo).toUInt32.toNat (fun env => s_goto meth run env y ((a : Int) + d).toNat SL r rest H)
        (fun env => s_lt env (Int32.ofInt hi).toUInt32.toNat (s_res env x) (fun env => s_goto meth run env y ((a : Int) + d).toNat SL r rest H)
          (fun env => s_conc env (s_res env x) (fun x env => match offs[((Int32.ofNat x).toInt - lo).toNat]? with
            | some off => s_goto meth run env y ((a : Int) + off).toNat SL r rest H
            | none => false)))
    | _ => false
  | _ => false
/-- a switch over single numbers -/
noncomputable def s_lsw (x : Nat) (r : List Nat) (d : Int) (ps : List (Int × Int)) : sE → Bool := List.rec (motive := fun _ => sE → Bool) (fun env => s_goto meth run env y ((a : Int) + d).toNat SL r rest H)
  (fun p _ ih env => s_eq env x (Int32.ofInt p.1).toUInt32.toNat (fun env => s_goto meth run env y ((a : Int) + p.2).toNat SL r rest H) ih) ps
noncomputable def so_lsw : Bool := match st with
  | x :: r => match jv_code y a with
    | some (.lookupswitch d ps, _) => s_lsw meth run y a SL rest H (s_res env x) r d ps.toList env
    | _ => false
  | _ => false
def s_dec (x : Nat) : Option Value := cond (Nat.blt x sM) (some (.int (Int32.ofNat x))) (cond (Nat.ble sDBL x) (some (.double (UInt64.ofNat (x - sDBL)))) (cond (Nat.ble sFLT x) (some (.float (UInt32.ofNat (x - sFLT)))) none))
def s_enc (v : Value) : Nat := match v with
  | .int w => w.toUInt32.toNat
  | .float u => sFLT + u.toNat
  | .double u => sDBL + u.toNat
  | _ => sUNS
/-- what works on numbers alone, by the J machine itself: b is how many it takes -/
noncomputable def so_pure : Bool := match jv_code y a with
  | some (i, _) => cond (Nat.beq b 0) (match jv_pure i [] with
      | some [v] => s_frc (s_enc v) (fun v => run env (y, pc, t, SL, v :: st) rest H)
      | _ => false)
    (cond (Nat.beq b 1) (match st with
      | x :: r => match s_dec x with
        | some x => match jv_pure i [x] with
          | some [v] => s_frc (s_enc v) (fun v => run env (y, pc, t, SL, v :: r) rest H)
          | _ => false
        | none => false
      | _ => false)
    (match st with
      | x :: z :: r => match s_dec x, s_dec z with
        | some x, some z => match jv_pure i [x, z] with
          | some [v] => s_frc (s_enc v) (fun v => run env (y, pc, t, SL, v :: r) rest H)
          | _ => false
        | _, _ => false
      | _ => false))
  | none => false
end SOPS2
def s_okd (x v : Nat) : Bool := Nat.blt x 2147483648 && (Nat.blt v 2147483648 && Nat.blt 0 v)
def s_isF (x : Nat) : Bool := Nat.ble sFLT x && Nat.blt x sDBL
noncomputable def sm_op (meth : Nat → List sI) (run : sRun) (env : sE) (y pc : Nat) (t : List sI) (op a b : Nat) (SL st : List Nat) (rest : List sF) (H : sH) : Bool := (cond (Nat.blt op 25) (cond (Nat.blt op 12) (cond (Nat.blt op 6) (cond (Nat.blt op 3) (cond (Nat.blt op 1) (so_const run env y pc t a SL st rest H) (cond (Nat.blt op 2) (so_iload run env y pc t a SL st rest H) (so_aload run env y pc t a SL st rest H))) (cond (Nat.blt op 4) (so_dload run env y pc t a SL st rest H) (cond (Nat.blt op 5) (so_istore run env y pc t a SL st rest H) (so_astore run env y pc t a SL st rest H)))) (cond (Nat.blt op 9) (cond (Nat.blt op 7) (so_dstore run env y pc t a SL st rest H) (cond (Nat.blt op 8) (so_iinc run env y pc t a b SL st rest H) (so_getf run env y pc t a b SL st rest H))) (cond (Nat.blt op 10) (so_putf run env y pc t a b SL st rest H s_isI) (cond (Nat.blt op 11) (so_putf run env y pc t a b SL st rest H s_is01) (so_putf run env y pc t a b SL st rest H s_isR))))) (cond (Nat.blt op 18) (cond (Nat.blt op 15) (cond (Nat.blt op 13) (s_goto meth run env y a SL st rest H) (cond (Nat.blt op 14) (so_if meth run env y pc t a b SL st rest H) (so_icmp meth run env y pc t a b SL st rest H))) (cond (Nat.blt op 16) (so_two run env y pc t SL st rest H (fun x v => (x + v) % sM) (fun _ _ => true)) (cond (Nat.blt op 17) (so_two run env y pc t SL st rest H (fun x v => (x + sM - v) % sM) (fun _ _ => true)) (so_two run env y pc t SL st rest H (fun x v => (x * v) % sM) (fun _ _ => true))))) (cond (Nat.blt op 21) (cond (Nat.blt op 19) (so_two run env y pc t SL st rest H (fun x v => x / v) s_okd) (cond (Nat.blt op 20) (so_two run env y pc t SL st rest H (fun x v => x % v) s_okd) (so_iand run env y pc t SL st rest H))) (cond (Nat.blt op 23) (cond (Nat.blt op 22) (so_ishr run env y pc t SL st rest H) (so_two run env y pc t SL st rest H Nat.xor (fun _ _ => true))) (cond (Nat.blt op 24) (so_iald run env y pc t SL st rest H) (so_bald run env y pc t SL st rest H)))))) (cond (Nat.blt op 38) (cond (Nat.blt op 31) (cond (Nat.blt op 28) (cond (Nat.blt op 26) (so_aald run env y pc t SL st rest H) (cond (Nat.blt op 27) (so_ast run env y pc t SL st rest H 0 s_isI) (so_ast run env y pc t SL st rest H 1 s_is01))) (cond (Nat.blt op 29) (so_aast run env y pc t SL st rest H) (cond (Nat.blt op 30) (so_alen run env y pc t SL st rest H) (so_new run env y pc t a SL st rest H)))) (cond (Nat.blt op 34) (cond (Nat.blt op 32) (so_newa run env y pc t a SL st rest H 0) (cond (Nat.blt op 33) (so_newa run env y pc t a SL st rest H sNUL) (so_dup run env y pc t SL st rest H))) (cond (Nat.blt op 36) (cond (Nat.blt op 35) (so_dup2 run env y pc t SL st rest H) (so_pop run env y pc t SL st rest H)) (cond (Nat.blt op 37) (so_call meth run env y pc t a b SL st rest H) (so_obj run env y pc t SL st rest H))))) (cond (Nat.blt op 44) (cond (Nat.blt op 41) (cond (Nat.blt op 39) (so_slen run env y pc t SL st rest H) (cond (Nat.blt op 40) (so_sat run env y pc t SL st rest H) (so_vret run env st rest H))) (cond (Nat.blt op 42) (so_ret run env st rest H s_isI) (cond (Nat.blt op 43) (so_ret run env st rest H s_is01) (so_ret run env st rest H s_isR)))) (cond (Nat.blt op 47) (cond (Nat.blt op 45) (so_ret run env st rest H s_isF) (cond (Nat.blt op 46) (so_ret run env st rest H s_isD) (so_tab meth run env y a SL st rest H))) (cond (Nat.blt op 49) (cond (Nat.blt op 48) (so_pure run env y pc t a b SL st rest H) (so_const run env y pc t a SL st rest H)) (cond (Nat.blt op 50) (so_const run env y pc t a SL st rest H) (cond (Nat.beq op 50) (so_lsw meth run env y a SL st rest H) false)))))))
noncomputable def sm_body (stopf : sRun) (meth : Nat → List sI) (run : sRun) : sRun := fun env f rest H => cond (stopf env f rest H) true (match f with
  | (_, _, [], _, _) => false
  | (y, pc, (op, a, b, len) :: t, SL, st) => sm_op meth run env y (pc + len) t op a b SL st rest H)
noncomputable def sm_run (stopf : sRun) (meth : Nat → List sI) (n : Nat) : sRun := Nat.rec (motive := fun _ => sRun) (fun _ _ _ _ => false) (fun _ ih => sm_body stopf meth ih) n
def sc_0 : List sI := [(2, 0, 0, 1), (37, 0, 0, 3), (2, 0, 0, 1), (0, 120, 0, 2), (31, 0, 0, 2), (11, 0, 0, 3), (40, 0, 0, 1)]
def sc_1 : List sI := [(2, 0, 0, 1), (0, 0, 0, 1), (9, 0, 1, 3), (2, 0, 0, 1), (0, 0, 0, 1), (9, 0, 2, 3), (40, 0, 0, 1)]
def sc_2 : List sI := [(0, 0, 0, 1), (4, 2, 0, 1), (1, 2, 0, 1), (2, 0, 0, 1), (8, 0, 0, 3), (29, 0, 0, 1), (14, 3, 38, 3), (1, 2, 0, 1), (2, 1, 0, 1), (8, 0, 0, 3), (29, 0, 0, 1), (14, 3, 38, 3), (2, 0, 0, 1), (8, 0, 0, 3), (1, 2, 0, 1), (2, 1, 0, 1), (8, 0, 0, 3), (1, 2, 0, 1), (23, 0, 0, 1), (26, 0, 0, 1), (7, 2, 1, 3), (12, 2, 0, 3), (2, 0, 0, 1), (2, 1, 0, 1), (8, 0, 1, 3), (9, 0, 1, 3), (2, 0, 0, 1), (2, 1, 0, 1), (8, 0, 2, 3), (9, 0, 2, 3), (40, 0, 0, 1)]
def sc_3 : List sI := [(2, 0, 0, 1), (8, 0, 1, 3), (1, 1, 0, 1), (15, 0, 0, 1), (0, 40, 0, 2), (36, 269, 50, 3), (0, 3, 0, 1), (17, 0, 0, 1), (1, 2, 0, 1), (15, 0, 0, 1), (41, 0, 0, 1)]
def sc_4 : List sI := [(1, 1, 0, 1), (13, 2, 20, 3), (1, 1, 0, 1), (2, 0, 0, 1), (8, 0, 0, 3), (29, 0, 0, 1), (14, 3, 20, 3), (2, 0, 0, 1), (8, 0, 0, 3), (1, 1, 0, 1), (1, 2, 0, 1), (26, 0, 0, 1), (40, 0, 0, 1)]
def sc_5 : List sI := [(2, 0, 0, 1), (2, 0, 0, 1), (2, 0, 0, 1), (8, 0, 2, 3), (0, 0, 0, 1), (36, 3, 1075, 3), (1, 1, 0, 1), (36, 4, 1075, 3), (2, 0, 0, 1), (2, 0, 0, 1), (2, 0, 0, 1), (8, 0, 2, 3), (0, 1, 0, 1), (36, 3, 1075, 3), (1, 2, 0, 1), (36, 4, 1075, 3), (2, 0, 0, 1), (2, 0, 0, 1), (2, 0, 0, 1), (8, 0, 2, 3), (0, 2, 0, 1), (36, 3, 1075, 3), (1, 3, 0, 1), (36, 4, 1075, 3), (2, 0, 0, 1), (8, 0, 2, 3), (0, 40, 0, 2), (14, 3, 64, 3), (2, 0, 0, 1), (33, 0, 0, 1), (8, 0, 2, 3), (0, 1, 0, 1), (15, 0, 0, 1), (9, 0, 2, 3), (12, 77, 0, 3), (2, 0, 0, 1), (2, 0, 0, 1), (8, 0, 1, 3), (0, 1, 0, 1), (15, 0, 0, 1), (0, 40, 0, 2), (19, 0, 0, 1), (9, 0, 1, 3), (40, 0, 0, 1)]
def sc_6 : List sI := [(1, 1, 0, 1), (2, 0, 0, 1), (8, 0, 2, 3), (14, 2, 11, 3), (0, 4294967294, 0, 2), (41, 0, 0, 1), (2, 0, 0, 1), (1, 1, 0, 1), (1, 2, 0, 1), (36, 3, 1075, 3), (4, 3, 0, 1), (1, 3, 0, 1), (13, 2, 40, 3), (1, 3, 0, 1), (2, 0, 0, 1), (8, 0, 0, 3), (29, 0, 0, 1), (14, 3, 40, 3), (2, 0, 0, 1), (8, 0, 0, 3), (1, 3, 0, 1), (23, 0, 0, 1), (12, 42, 0, 3), (0, 4294967294, 0, 2), (41, 0, 0, 1)]
def sc_7 : List sI := [(2, 0, 0, 1), (37, 0, 0, 3), (2, 0, 0, 1), (0, 8, 0, 2), (32, 3, 0, 3), (11, 1, 0, 3), (0, 0, 0, 1), (4, 1, 0, 1), (1, 1, 0, 1), (0, 8, 0, 2), (14, 3, 40, 3), (2, 0, 0, 1), (8, 1, 0, 3), (1, 1, 0, 1), (30, 5, 0, 3), (33, 0, 0, 1), (36, 46, 6177, 3), (28, 0, 0, 1), (7, 1, 1, 3), (12, 15, 0, 3), (40, 0, 0, 1)]
def sc_8 : List sI := [(2, 0, 0, 1), (0, 0, 0, 1), (9, 1, 2, 3), (40, 0, 0, 1)]
def sc_9 : List sI := [(2, 0, 0, 1), (8, 1, 0, 3), (2, 0, 0, 1), (8, 1, 1, 3), (1, 1, 0, 1), (15, 0, 0, 1), (0, 8, 0, 2), (36, 269, 50, 3), (25, 0, 0, 1), (43, 0, 0, 1)]
def sc_10 : List sI := [(2, 0, 0, 1), (2, 0, 0, 1), (8, 1, 2, 3), (36, 9, 2082, 3), (2, 1, 0, 1), (36, 48, 6194, 3), (2, 0, 0, 1), (8, 1, 2, 3), (0, 8, 0, 2), (14, 3, 34, 3), (2, 0, 0, 1), (33, 0, 0, 1), (8, 1, 2, 3), (0, 1, 0, 1), (15, 0, 0, 1), (9, 1, 2, 3), (12, 47, 0, 3), (2, 0, 0, 1), (2, 0, 0, 1), (8, 1, 1, 3), (0, 1, 0, 1), (15, 0, 0, 1), (0, 8, 0, 2), (19, 0, 0, 1), (9, 1, 1, 3), (40, 0, 0, 1)]
def sc_11 : List sI := [(2, 0, 0, 1), (8, 1, 2, 3), (13, 5, 29, 3), (2, 0, 0, 1), (33, 0, 0, 1), (8, 1, 2, 3), (0, 1, 0, 1), (16, 0, 0, 1), (9, 1, 2, 3), (2, 1, 0, 1), (2, 0, 0, 1), (2, 0, 0, 1), (8, 1, 2, 3), (36, 9, 2082, 3), (36, 48, 6194, 3), (40, 0, 0, 1)]
def sc_12 : List sI := [(2, 0, 0, 1), (37, 0, 0, 3), (2, 0, 0, 1), (30, 4, 0, 3), (33, 0, 0, 1), (36, 41, 5137, 3), (11, 2, 0, 3), (2, 0, 0, 1), (30, 6, 0, 3), (33, 0, 0, 1), (36, 101, 7185, 3), (11, 2, 1, 3), (40, 0, 0, 1)]
def sc_13 : List sI := [(1, 0, 0, 1), (0, 97, 0, 2), (14, 2, 14, 3), (1, 0, 0, 1), (0, 122, 0, 2), (14, 4, 14, 3), (0, 2, 0, 1), (41, 0, 0, 1), (1, 0, 0, 1), (0, 48, 0, 2), (14, 2, 28, 3), (1, 0, 0, 1), (0, 57, 0, 2), (14, 4, 28, 3), (0, 3, 0, 1), (41, 0, 0, 1), (1, 0, 0, 1), (0, 32, 0, 2), (14, 0, 40, 3), (1, 0, 0, 1), (0, 10, 0, 2), (14, 1, 42, 3), (0, 1, 0, 1), (41, 0, 0, 1), (1, 0, 0, 1), (0, 4294967295, 0, 1), (14, 1, 51, 3), (0, 0, 0, 1), (12, 52, 0, 3), (0, 4, 0, 1), (41, 0, 0, 1)]
def sc_14 : List sI := [(2, 0, 0, 1), (0, 0, 0, 1), (10, 2, 5, 3), (2, 0, 0, 1), (0, 0, 0, 1), (9, 2, 3, 3), (2, 0, 0, 1), (36, 15, 3105, 3), (40, 0, 0, 1)]
def sc_15 : List sI := [(2, 0, 0, 1), (2, 0, 0, 1), (8, 2, 3, 3), (9, 2, 2, 3), (2, 0, 0, 1), (8, 2, 2, 3), (2, 0, 0, 1), (8, 2, 0, 3), (8, 4, 1, 3), (14, 3, 53, 3), (2, 0, 0, 1), (8, 2, 0, 3), (2, 0, 0, 1), (8, 2, 2, 3), (36, 45, 5154, 3), (36, 13, 17, 3), (0, 1, 0, 1), (14, 1, 53, 3), (2, 0, 0, 1), (33, 0, 0, 1), (8, 2, 2, 3), (0, 1, 0, 1), (15, 0, 0, 1), (9, 2, 2, 3), (12, 8, 0, 3), (2, 0, 0, 1), (2, 0, 0, 1), (8, 2, 0, 3), (2, 0, 0, 1), (8, 2, 2, 3), (36, 45, 5154, 3), (36, 13, 17, 3), (9, 2, 4, 3), (2, 0, 0, 1), (2, 0, 0, 1), (8, 2, 2, 3), (0, 1, 0, 1), (15, 0, 0, 1), (9, 2, 3, 3), (2, 0, 0, 1), (8, 2, 4, 3), (0, 2, 0, 1), (14, 0, 97, 3), (2, 0, 0, 1), (8, 2, 4, 3), (0, 3, 0, 1), (14, 1, 101, 3), (0, 1, 0, 1), (12, 102, 0, 3), (0, 0, 0, 1), (4, 1, 0, 1), (1, 1, 0, 1), (13, 0, 155, 3), (2, 0, 0, 1), (8, 2, 3, 3), (2, 0, 0, 1), (8, 2, 0, 3), (8, 4, 1, 3), (14, 3, 155, 3), (2, 0, 0, 1), (8, 2, 0, 3), (2, 0, 0, 1), (8, 2, 3, 3), (36, 45, 5154, 3), (36, 13, 17, 3), (2, 0, 0, 1), (8, 2, 4, 3), (14, 1, 155, 3), (2, 0, 0, 1), (33, 0, 0, 1), (8, 2, 3, 3), (0, 1, 0, 1), (15, 0, 0, 1), (9, 2, 3, 3), (12, 103, 0, 3), (40, 0, 0, 1)]
def sc_16 : List sI := [(2, 0, 0, 1), (8, 2, 0, 3), (2, 0, 0, 1), (8, 2, 2, 3), (36, 45, 5154, 3), (1, 1, 0, 1), (14, 1, 19, 3), (0, 1, 0, 1), (12, 20, 0, 3), (0, 0, 0, 1), (42, 0, 0, 1)]
def sc_17 : List sI := [(2, 0, 0, 1), (8, 2, 4, 3), (0, 2, 0, 1), (14, 1, 24, 3), (2, 0, 0, 1), (8, 2, 3, 3), (2, 0, 0, 1), (8, 2, 2, 3), (16, 0, 0, 1), (2, 1, 0, 1), (38, 0, 0, 3), (14, 0, 26, 3), (0, 0, 0, 1), (42, 0, 0, 1), (0, 0, 0, 1), (4, 2, 0, 1), (1, 2, 0, 1), (2, 1, 0, 1), (38, 0, 0, 3), (14, 3, 65, 3), (2, 0, 0, 1), (8, 2, 0, 3), (2, 0, 0, 1), (8, 2, 2, 3), (1, 2, 0, 1), (15, 0, 0, 1), (36, 45, 5154, 3), (2, 1, 0, 1), (1, 2, 0, 1), (39, 0, 0, 3), (14, 0, 59, 3), (0, 0, 0, 1), (42, 0, 0, 1), (7, 2, 1, 3), (12, 28, 0, 3), (0, 1, 0, 1), (42, 0, 0, 1)]
def sc_18 : List sI := [(2, 0, 0, 1), (49, 4295967297, 0, 2), (36, 17, 3122, 3), (13, 1, 90, 3), (2, 0, 0, 1), (49, 4295967298, 0, 2), (36, 17, 3122, 3), (13, 1, 90, 3), (2, 0, 0, 1), (49, 4295967299, 0, 2), (36, 17, 3122, 3), (13, 1, 90, 3), (2, 0, 0, 1), (49, 4295967300, 0, 2), (36, 17, 3122, 3), (13, 1, 90, 3), (2, 0, 0, 1), (49, 4295967301, 0, 2), (36, 17, 3122, 3), (13, 1, 90, 3), (2, 0, 0, 1), (49, 4295967302, 0, 2), (36, 17, 3122, 3), (13, 1, 90, 3), (2, 0, 0, 1), (49, 4295967303, 0, 2), (36, 17, 3122, 3), (13, 1, 90, 3), (2, 0, 0, 1), (49, 4295967304, 0, 2), (36, 17, 3122, 3), (13, 1, 90, 3), (2, 0, 0, 1), (49, 4295967305, 0, 2), (36, 17, 3122, 3), (13, 1, 90, 3), (2, 0, 0, 1), (49, 4295967306, 0, 2), (36, 17, 3122, 3), (13, 0, 94, 3), (0, 1, 0, 1), (12, 95, 0, 3), (0, 0, 0, 1), (42, 0, 0, 1)]
def sc_19 : List sI := [(2, 0, 0, 1), (8, 2, 4, 3), (0, 2, 0, 1), (14, 1, 32, 3), (2, 0, 0, 1), (8, 2, 3, 3), (2, 0, 0, 1), (8, 2, 2, 3), (16, 0, 0, 1), (0, 5, 0, 1), (14, 4, 32, 3), (2, 0, 0, 1), (36, 18, 3089, 3), (13, 1, 32, 3), (0, 1, 0, 1), (12, 33, 0, 3), (0, 0, 0, 1), (42, 0, 0, 1)]
def sc_20 : List sI := [(0, 0, 0, 1), (4, 1, 0, 1), (2, 0, 0, 1), (8, 2, 2, 3), (4, 2, 0, 1), (1, 2, 0, 1), (2, 0, 0, 1), (8, 2, 3, 3), (14, 3, 56, 3), (1, 2, 0, 1), (2, 0, 0, 1), (8, 2, 2, 3), (0, 5, 0, 1), (15, 0, 0, 1), (14, 3, 56, 3), (1, 1, 0, 1), (2, 0, 0, 1), (8, 2, 0, 3), (1, 2, 0, 1), (36, 45, 5154, 3), (0, 97, 0, 2), (16, 0, 0, 1), (0, 1, 0, 1), (15, 0, 0, 1), (0, 5, 0, 1), (1, 2, 0, 1), (2, 0, 0, 1), (8, 2, 2, 3), (16, 0, 0, 1), (17, 0, 0, 1), (51, 0, 0, 1), (51, 0, 0, 1), (4, 1, 0, 1), (7, 2, 1, 3), (12, 7, 0, 3), (1, 1, 0, 1), (41, 0, 0, 1)]
def sc_21 : List sI := [(2, 0, 0, 1), (8, 2, 4, 3), (0, 3, 0, 1), (14, 1, 21, 3), (2, 0, 0, 1), (8, 2, 3, 3), (2, 0, 0, 1), (8, 2, 2, 3), (16, 0, 0, 1), (0, 2, 0, 1), (14, 5, 23, 3), (0, 4294967295, 0, 1), (41, 0, 0, 1), (0, 0, 0, 1), (4, 1, 0, 1), (2, 0, 0, 1), (8, 2, 2, 3), (4, 2, 0, 1), (1, 2, 0, 1), (2, 0, 0, 1), (8, 2, 3, 3), (14, 3, 61, 3), (0, 10, 0, 2), (1, 1, 0, 1), (17, 0, 0, 1), (2, 0, 0, 1), (8, 2, 0, 3), (1, 2, 0, 1), (36, 45, 5154, 3), (15, 0, 0, 1), (0, 48, 0, 2), (16, 0, 0, 1), (4, 1, 0, 1), (7, 2, 1, 3), (12, 30, 0, 3), (1, 1, 0, 1), (41, 0, 0, 1)]
def sc_22 : List sI := [(2, 0, 0, 1), (2, 0, 0, 1), (8, 2, 5, 3), (13, 1, 12, 3), (1, 1, 0, 1), (13, 1, 16, 3), (0, 1, 0, 1), (12, 17, 0, 3), (0, 0, 0, 1), (10, 2, 5, 3), (2, 0, 0, 1), (8, 2, 5, 3), (13, 1, 31, 3), (2, 0, 0, 1), (36, 15, 3105, 3), (40, 0, 0, 1)]
def sc_23 : List sI := [(2, 0, 0, 1), (2, 0, 0, 1), (2, 1, 0, 1), (36, 17, 3122, 3), (36, 22, 3106, 3), (40, 0, 0, 1)]
def sc_24 : List sI := [(2, 0, 0, 1), (8, 2, 5, 3), (13, 1, 19, 3), (2, 0, 0, 1), (2, 1, 0, 1), (36, 17, 3122, 3), (13, 0, 19, 3), (0, 1, 0, 1), (12, 20, 0, 3), (0, 0, 0, 1), (4, 2, 0, 1), (1, 2, 0, 1), (13, 0, 29, 3), (2, 0, 0, 1), (36, 15, 3105, 3), (1, 2, 0, 1), (42, 0, 0, 1)]
def sc_25 : List sI := [(2, 0, 0, 1), (36, 21, 3121, 3), (4, 3, 0, 1), (2, 0, 0, 1), (1, 3, 0, 1), (1, 1, 0, 1), (14, 2, 20, 3), (1, 3, 0, 1), (1, 2, 0, 1), (14, 4, 20, 3), (0, 1, 0, 1), (12, 21, 0, 3), (0, 0, 0, 1), (36, 22, 3106, 3), (1, 3, 0, 1), (41, 0, 0, 1)]
def sc_26 : List sI := [(2, 0, 0, 1), (0, 45, 0, 2), (36, 16, 3106, 3), (4, 1, 0, 1), (2, 0, 0, 1), (1, 1, 0, 1), (13, 1, 21, 3), (2, 0, 0, 1), (0, 43, 0, 2), (36, 16, 3106, 3), (13, 0, 25, 3), (0, 1, 0, 1), (12, 26, 0, 3), (0, 0, 0, 1), (36, 22, 3106, 3), (2, 0, 0, 1), (0, 0, 0, 1), (0, 9, 0, 2), (36, 25, 3139, 3), (4, 2, 0, 1), (1, 1, 0, 1), (13, 0, 46, 3), (1, 2, 0, 1), (51, 0, 0, 1), (12, 47, 0, 3), (1, 2, 0, 1), (41, 0, 0, 1)]
def sc_27 : List sI := [(2, 0, 0, 1), (2, 0, 0, 1), (8, 2, 5, 3), (13, 1, 19, 3), (2, 1, 0, 1), (2, 0, 0, 1), (36, 21, 3121, 3), (36, 56, 6178, 3), (13, 1, 23, 3), (0, 1, 0, 1), (12, 24, 0, 3), (0, 0, 0, 1), (10, 2, 5, 3), (2, 0, 0, 1), (0, 0, 0, 1), (2, 1, 0, 1), (36, 50, 6161, 3), (0, 1, 0, 1), (16, 0, 0, 1), (36, 25, 3139, 3), (41, 0, 0, 1)]
def sc_28 : List sI := [(2, 0, 0, 1), (36, 20, 3121, 3), (4, 1, 0, 1), (2, 0, 0, 1), (2, 0, 0, 1), (36, 19, 3089, 3), (36, 22, 3106, 3), (1, 1, 0, 1), (41, 0, 0, 1)]
def sc_29 : List sI := [(2, 0, 0, 1), (36, 14, 3089, 3), (2, 0, 0, 1), (8, 2, 2, 3), (13, 1, 36, 3), (2, 0, 0, 1), (8, 2, 3, 3), (2, 0, 0, 1), (8, 2, 0, 3), (8, 4, 1, 3), (14, 1, 36, 3), (2, 0, 0, 1), (36, 19, 3089, 3), (13, 0, 36, 3), (0, 1, 0, 1), (12, 37, 0, 3), (0, 0, 0, 1), (42, 0, 0, 1)]
def sc_30 : List sI := [(2, 0, 0, 1), (36, 14, 3089, 3), (2, 0, 0, 1), (36, 20, 3121, 3), (41, 0, 0, 1)]
def sc_31 : List sI := [(2, 1, 0, 1), (36, 47, 6177, 3), (2, 0, 0, 1), (36, 14, 3089, 3), (2, 0, 0, 1), (49, 4295967297, 0, 2), (36, 23, 3106, 3), (2, 1, 0, 1), (2, 0, 0, 1), (0, 2, 0, 1), (0, 10, 0, 2), (36, 25, 3139, 3), (9, 5, 4, 3), (2, 0, 0, 1), (49, 4295967298, 0, 2), (36, 23, 3106, 3), (2, 1, 0, 1), (2, 0, 0, 1), (0, 0, 0, 1), (2, 1, 0, 1), (8, 5, 4, 3), (36, 25, 3139, 3), (9, 5, 5, 3), (2, 0, 0, 1), (2, 0, 0, 1), (0, 59, 0, 2), (36, 16, 3106, 3), (36, 22, 3106, 3), (0, 0, 0, 1), (4, 2, 0, 1), (1, 2, 0, 1), (0, 20, 0, 2), (14, 3, 87, 3), (2, 0, 0, 1), (8, 2, 4, 3), (13, 0, 87, 3), (2, 0, 0, 1), (8, 2, 5, 3), (13, 1, 87, 3), (2, 0, 0, 1), (2, 1, 0, 1), (36, 32, 3106, 3), (7, 2, 1, 3), (12, 56, 0, 3), (2, 0, 0, 1), (8, 2, 4, 3), (13, 1, 105, 3), (2, 0, 0, 1), (8, 2, 5, 3), (13, 1, 105, 3), (0, 1, 0, 1), (12, 106, 0, 3), (0, 0, 0, 1), (42, 0, 0, 1)]
def sc_32 : List sI := [(2, 0, 0, 1), (8, 2, 1, 3), (36, 102, 7185, 3), (2, 0, 0, 1), (49, 4295967299, 0, 2), (36, 23, 3106, 3), (2, 0, 0, 1), (8, 2, 1, 3), (2, 0, 0, 1), (2, 1, 0, 1), (36, 27, 3106, 3), (9, 6, 1, 3), (2, 0, 0, 1), (8, 2, 1, 3), (2, 0, 0, 1), (36, 28, 3105, 3), (9, 6, 0, 3), (2, 0, 0, 1), (49, 4295967300, 0, 2), (36, 24, 3122, 3), (13, 0, 53, 3), (2, 0, 0, 1), (8, 2, 1, 3), (0, 1, 0, 1), (9, 6, 2, 3), (2, 0, 0, 1), (49, 4295967301, 0, 2), (36, 24, 3122, 3), (13, 0, 76, 3), (2, 0, 0, 1), (8, 2, 1, 3), (2, 0, 0, 1), (0, 1, 0, 1), (0, 9, 0, 2), (36, 25, 3139, 3), (9, 6, 3, 3), (2, 0, 0, 1), (49, 4295967302, 0, 2), (36, 24, 3122, 3), (13, 0, 96, 3), (2, 0, 0, 1), (8, 2, 1, 3), (2, 0, 0, 1), (36, 26, 3121, 3), (9, 6, 4, 3), (2, 0, 0, 1), (49, 4295967303, 0, 2), (36, 24, 3122, 3), (13, 0, 116, 3), (2, 0, 0, 1), (8, 2, 1, 3), (2, 0, 0, 1), (36, 26, 3121, 3), (9, 6, 5, 3), (2, 0, 0, 1), (49, 4295967304, 0, 2), (36, 24, 3122, 3), (13, 0, 156, 3), (2, 0, 0, 1), (8, 2, 1, 3), (2, 0, 0, 1), (0, 0, 0, 1), (2, 1, 0, 1), (8, 5, 4, 3), (0, 1, 0, 1), (16, 0, 0, 1), (36, 25, 3139, 3), (9, 6, 6, 3), (2, 0, 0, 1), (8, 2, 1, 3), (2, 0, 0, 1), (0, 0, 0, 1), (0, 3, 0, 1), (36, 25, 3139, 3), (9, 6, 7, 3), (2, 0, 0, 1), (49, 4295967305, 0, 2), (36, 24, 3122, 3), (13, 0, 179, 3), (2, 0, 0, 1), (8, 2, 1, 3), (2, 0, 0, 1), (0, 0, 0, 1), (0, 99, 0, 2), (36, 25, 3139, 3), (9, 6, 8, 3), (2, 0, 0, 1), (49, 4295967306, 0, 2), (36, 24, 3122, 3), (13, 0, 202, 3), (2, 0, 0, 1), (8, 2, 1, 3), (2, 0, 0, 1), (0, 1, 0, 1), (0, 99, 0, 2), (36, 25, 3139, 3), (9, 6, 9, 3), (2, 0, 0, 1), (2, 0, 0, 1), (0, 59, 0, 2), (36, 16, 3106, 3), (13, 0, 237, 3), (2, 1, 0, 1), (2, 0, 0, 1), (8, 2, 1, 3), (8, 6, 2, 3), (2, 0, 0, 1), (8, 2, 1, 3), (8, 6, 1, 3), (36, 57, 6195, 3), (13, 0, 237, 3), (0, 1, 0, 1), (12, 238, 0, 3), (0, 0, 0, 1), (36, 22, 3106, 3), (2, 0, 0, 1), (8, 2, 5, 3), (13, 1, 256, 3), (2, 1, 0, 1), (2, 0, 0, 1), (8, 2, 1, 3), (36, 62, 6178, 3), (40, 0, 0, 1)]
def sc_33 : List sI := [(2, 0, 0, 1), (37, 0, 0, 3), (40, 0, 0, 1)]
def sc_34 : List sI := [(2, 0, 0, 1), (0, 0, 0, 1), (9, 3, 0, 3), (2, 0, 0, 1), (1, 2, 0, 1), (9, 3, 1, 3), (2, 0, 0, 1), (0, 4294967294, 0, 2), (9, 3, 2, 3), (2, 0, 0, 1), (49, 4295967307, 0, 2), (36, 39, 4146, 3), (2, 0, 0, 1), (2, 1, 0, 1), (8, 5, 4, 3), (36, 38, 4162, 3), (2, 0, 0, 1), (49, 4295967308, 0, 2), (36, 39, 4146, 3), (2, 0, 0, 1), (2, 1, 0, 1), (8, 5, 5, 3), (36, 38, 4162, 3), (2, 0, 0, 1), (0, 59, 0, 2), (36, 40, 4130, 3), (0, 0, 0, 1), (4, 3, 0, 1), (1, 3, 0, 1), (2, 1, 0, 1), (8, 5, 7, 3), (14, 3, 75, 3), (2, 0, 0, 1), (2, 1, 0, 1), (1, 3, 0, 1), (36, 49, 6178, 3), (36, 35, 4146, 3), (7, 3, 1, 3), (12, 52, 0, 3), (40, 0, 0, 1)]
def sc_35 : List sI := [(2, 0, 0, 1), (49, 4295967309, 0, 2), (36, 39, 4146, 3), (2, 0, 0, 1), (2, 1, 0, 1), (8, 6, 1, 3), (36, 38, 4162, 3), (2, 0, 0, 1), (0, 32, 0, 2), (36, 40, 4130, 3), (0, 0, 0, 1), (4, 2, 0, 1), (1, 2, 0, 1), (0, 5, 0, 1), (14, 3, 55, 3), (2, 1, 0, 1), (1, 2, 0, 1), (36, 106, 7202, 3), (13, 5, 55, 3), (2, 0, 0, 1), (0, 97, 0, 2), (2, 1, 0, 1), (1, 2, 0, 1), (36, 106, 7202, 3), (15, 0, 0, 1), (0, 1, 0, 1), (16, 0, 0, 1), (36, 40, 4130, 3), (7, 2, 1, 3), (12, 22, 0, 3), (2, 1, 0, 1), (8, 6, 2, 3), (0, 1, 0, 1), (14, 1, 69, 3), (2, 0, 0, 1), (49, 4295967310, 0, 2), (36, 39, 4146, 3), (2, 0, 0, 1), (49, 4295967311, 0, 2), (2, 1, 0, 1), (8, 6, 3, 3), (0, 0, 0, 1), (36, 36, 4164, 3), (2, 0, 0, 1), (49, 4295967312, 0, 2), (2, 1, 0, 1), (8, 6, 4, 3), (36, 37, 4147, 3), (2, 0, 0, 1), (49, 4295967313, 0, 2), (2, 1, 0, 1), (8, 6, 5, 3), (36, 37, 4147, 3), (2, 1, 0, 1), (8, 6, 6, 3), (13, 4, 114, 3), (2, 1, 0, 1), (8, 6, 7, 3), (13, 5, 142, 3), (2, 0, 0, 1), (49, 4295967314, 0, 2), (36, 39, 4146, 3), (2, 0, 0, 1), (2, 1, 0, 1), (8, 6, 6, 3), (36, 38, 4162, 3), (2, 0, 0, 1), (0, 32, 0, 2), (36, 40, 4130, 3), (2, 0, 0, 1), (2, 1, 0, 1), (8, 6, 7, 3), (36, 38, 4162, 3), (2, 0, 0, 1), (49, 4295967315, 0, 2), (2, 1, 0, 1), (8, 6, 8, 3), (0, 0, 0, 1), (36, 36, 4164, 3), (2, 0, 0, 1), (49, 4295967316, 0, 2), (2, 1, 0, 1), (8, 6, 9, 3), (0, 99, 0, 2), (36, 36, 4164, 3), (2, 0, 0, 1), (0, 59, 0, 2), (36, 40, 4130, 3), (40, 0, 0, 1)]
def sc_36 : List sI := [(1, 2, 0, 1), (1, 3, 0, 1), (14, 0, 15, 3), (2, 0, 0, 1), (2, 1, 0, 1), (36, 39, 4146, 3), (2, 0, 0, 1), (1, 2, 0, 1), (36, 38, 4162, 3), (40, 0, 0, 1)]
def sc_37 : List sI := [(1, 2, 0, 1), (13, 0, 32, 3), (2, 0, 0, 1), (2, 1, 0, 1), (36, 39, 4146, 3), (2, 0, 0, 1), (1, 2, 0, 1), (13, 5, 19, 3), (0, 43, 0, 2), (12, 21, 0, 3), (0, 45, 0, 2), (36, 40, 4130, 3), (2, 0, 0, 1), (1, 2, 0, 1), (36, 270, 17, 3), (36, 38, 4162, 3), (40, 0, 0, 1)]
def sc_38 : List sI := [(0, 0, 0, 1), (4, 2, 0, 1), (48, 100000, 0, 2), (4, 3, 0, 1), (1, 3, 0, 1), (13, 5, 54, 3), (1, 2, 0, 1), (13, 1, 23, 3), (1, 1, 0, 1), (1, 3, 0, 1), (14, 3, 23, 3), (1, 3, 0, 1), (0, 1, 0, 1), (14, 1, 27, 3), (0, 1, 0, 1), (12, 28, 0, 3), (0, 0, 0, 1), (4, 2, 0, 1), (1, 2, 0, 1), (13, 0, 46, 3), (2, 0, 0, 1), (0, 48, 0, 2), (1, 1, 0, 1), (1, 3, 0, 1), (18, 0, 0, 1), (0, 10, 0, 2), (19, 0, 0, 1), (15, 0, 0, 1), (36, 40, 4130, 3), (1, 3, 0, 1), (0, 10, 0, 2), (18, 0, 0, 1), (4, 3, 0, 1), (12, 5, 0, 3), (40, 0, 0, 1)]
def sc_39 : List sI := [(0, 0, 0, 1), (4, 2, 0, 1), (1, 2, 0, 1), (2, 1, 0, 1), (38, 0, 0, 3), (14, 3, 25, 3), (2, 0, 0, 1), (2, 1, 0, 1), (1, 2, 0, 1), (39, 0, 0, 3), (36, 40, 4130, 3), (7, 2, 1, 3), (12, 2, 0, 3), (40, 0, 0, 1)]
def sc_40 : List sI := [(2, 0, 0, 1), (8, 3, 0, 3), (2, 0, 0, 1), (8, 3, 1, 3), (14, 1, 16, 3), (2, 0, 0, 1), (1, 1, 0, 1), (9, 3, 2, 3), (2, 0, 0, 1), (33, 0, 0, 1), (8, 3, 0, 3), (0, 1, 0, 1), (15, 0, 0, 1), (9, 3, 0, 3), (40, 0, 0, 1)]
def sc_41 : List sI := [(2, 0, 0, 1), (37, 0, 0, 3), (2, 0, 0, 1), (0, 1000, 0, 3), (31, 0, 0, 2), (11, 4, 0, 3), (40, 0, 0, 1)]
def sc_42 : List sI := [(2, 0, 0, 1), (8, 4, 1, 3), (0, 20, 0, 2), (15, 0, 0, 1), (0, 1000, 0, 3), (14, 4, 17, 3), (0, 1, 0, 1), (12, 18, 0, 3), (0, 0, 0, 1), (42, 0, 0, 1)]
def sc_43 : List sI := [(0, 24, 0, 2), (4, 2, 0, 1), (1, 2, 0, 1), (13, 2, 24, 3), (2, 0, 0, 1), (1, 1, 0, 1), (1, 2, 0, 1), (21, 0, 0, 1), (0, 255, 0, 3), (20, 0, 0, 1), (36, 44, 5154, 3), (7, 2, 4294967288, 3), (12, 3, 0, 3), (40, 0, 0, 1)]
def sc_44 : List sI := [(2, 0, 0, 1), (8, 4, 1, 3), (13, 2, 39, 3), (2, 0, 0, 1), (8, 4, 1, 3), (2, 0, 0, 1), (8, 4, 0, 3), (29, 0, 0, 1), (14, 3, 39, 3), (2, 0, 0, 1), (8, 4, 0, 3), (2, 0, 0, 1), (8, 4, 1, 3), (1, 1, 0, 1), (26, 0, 0, 1), (2, 0, 0, 1), (33, 0, 0, 1), (8, 4, 1, 3), (0, 1, 0, 1), (15, 0, 0, 1), (9, 4, 1, 3), (40, 0, 0, 1)]
def sc_45 : List sI := [(1, 1, 0, 1), (13, 2, 30, 3), (1, 1, 0, 1), (2, 0, 0, 1), (8, 4, 1, 3), (14, 3, 30, 3), (1, 1, 0, 1), (2, 0, 0, 1), (8, 4, 0, 3), (29, 0, 0, 1), (14, 3, 30, 3), (2, 0, 0, 1), (8, 4, 0, 3), (1, 1, 0, 1), (23, 0, 0, 1), (12, 31, 0, 3), (0, 4294967295, 0, 1), (41, 0, 0, 1)]
def sc_46 : List sI := [(2, 0, 0, 1), (37, 0, 0, 3), (2, 0, 0, 1), (0, 20, 0, 2), (32, 2, 0, 3), (11, 5, 0, 3), (0, 0, 0, 1), (4, 1, 0, 1), (1, 1, 0, 1), (0, 20, 0, 2), (14, 3, 40, 3), (2, 0, 0, 1), (8, 5, 0, 3), (1, 1, 0, 1), (30, 6, 0, 3), (33, 0, 0, 1), (36, 101, 7185, 3), (28, 0, 0, 1), (7, 1, 1, 3), (12, 15, 0, 3), (2, 0, 0, 1), (30, 6, 0, 3), (33, 0, 0, 1), (36, 101, 7185, 3), (11, 5, 1, 3), (2, 0, 0, 1), (0, 50, 0, 2), (31, 0, 0, 2), (11, 5, 2, 3), (2, 0, 0, 1), (30, 0, 0, 3), (33, 0, 0, 1), (36, 0, 1041, 3), (11, 5, 3, 3), (2, 0, 0, 1), (0, 4, 0, 1), (9, 5, 4, 3), (2, 0, 0, 1), (0, 1, 0, 1), (9, 5, 5, 3), (40, 0, 0, 1)]
def sc_47 : List sI := [(0, 0, 0, 1), (4, 1, 0, 1), (1, 1, 0, 1), (2, 0, 0, 1), (8, 5, 2, 3), (29, 0, 0, 1), (14, 3, 24, 3), (2, 0, 0, 1), (8, 5, 2, 3), (1, 1, 0, 1), (0, 0, 0, 1), (26, 0, 0, 1), (7, 1, 1, 3), (12, 2, 0, 3), (2, 0, 0, 1), (8, 5, 3, 3), (36, 1, 1041, 3), (2, 0, 0, 1), (0, 0, 0, 1), (9, 5, 5, 3), (2, 0, 0, 1), (0, 0, 0, 1), (9, 5, 6, 3), (2, 0, 0, 1), (0, 0, 0, 1), (9, 5, 7, 3), (2, 0, 0, 1), (0, 0, 0, 1), (9, 5, 8, 3), (2, 0, 0, 1), (0, 0, 0, 1), (9, 5, 9, 3), (2, 0, 0, 1), (0, 0, 0, 1), (9, 5, 10, 3), (2, 0, 0, 1), (0, 0, 0, 1), (9, 5, 11, 3), (2, 0, 0, 1), (0, 0, 0, 1), (9, 5, 12, 3), (40, 0, 0, 1)]
def sc_48 : List sI := [(0, 0, 0, 1), (4, 2, 0, 1), (1, 2, 0, 1), (2, 1, 0, 1), (8, 5, 7, 3), (14, 3, 29, 3), (2, 0, 0, 1), (1, 2, 0, 1), (36, 49, 6178, 3), (2, 1, 0, 1), (1, 2, 0, 1), (36, 49, 6178, 3), (36, 103, 7202, 3), (7, 2, 1, 3), (12, 2, 0, 3), (0, 0, 0, 1), (4, 2, 0, 1), (1, 2, 0, 1), (2, 0, 0, 1), (8, 5, 2, 3), (29, 0, 0, 1), (14, 3, 67, 3), (1, 2, 0, 1), (2, 1, 0, 1), (8, 5, 2, 3), (29, 0, 0, 1), (14, 3, 67, 3), (2, 0, 0, 1), (8, 5, 2, 3), (1, 2, 0, 1), (2, 1, 0, 1), (8, 5, 2, 3), (1, 2, 0, 1), (23, 0, 0, 1), (26, 0, 0, 1), (7, 2, 1, 3), (12, 31, 0, 3), (2, 0, 0, 1), (8, 5, 3, 3), (2, 1, 0, 1), (8, 5, 3, 3), (36, 2, 1074, 3), (2, 0, 0, 1), (2, 1, 0, 1), (8, 5, 4, 3), (9, 5, 4, 3), (2, 0, 0, 1), (2, 1, 0, 1), (8, 5, 5, 3), (9, 5, 5, 3), (2, 0, 0, 1), (2, 1, 0, 1), (8, 5, 6, 3), (9, 5, 6, 3), (2, 0, 0, 1), (2, 1, 0, 1), (8, 5, 7, 3), (9, 5, 7, 3), (2, 0, 0, 1), (2, 1, 0, 1), (8, 5, 8, 3), (9, 5, 8, 3), (2, 0, 0, 1), (2, 1, 0, 1), (8, 5, 9, 3), (9, 5, 9, 3), (2, 0, 0, 1), (2, 1, 0, 1), (8, 5, 10, 3), (9, 5, 10, 3), (2, 0, 0, 1), (2, 1, 0, 1), (8, 5, 11, 3), (9, 5, 11, 3), (2, 0, 0, 1), (2, 1, 0, 1), (8, 5, 12, 3), (9, 5, 12, 3), (40, 0, 0, 1)]
def sc_49 : List sI := [(1, 1, 0, 1), (13, 2, 22, 3), (1, 1, 0, 1), (2, 0, 0, 1), (8, 5, 0, 3), (29, 0, 0, 1), (14, 3, 22, 3), (2, 0, 0, 1), (8, 5, 0, 3), (1, 1, 0, 1), (25, 0, 0, 1), (12, 26, 0, 3), (2, 0, 0, 1), (8, 5, 1, 3), (43, 0, 0, 1)]
def sc_50 : List sI := [(2, 0, 0, 1), (8, 5, 4, 3), (0, 4, 0, 1), (17, 0, 0, 1), (41, 0, 0, 1)]
def sc_51 : List sI := [(2, 0, 0, 1), (8, 5, 4, 3), (0, 1, 0, 1), (15, 0, 0, 1), (0, 2, 0, 1), (18, 0, 0, 1), (41, 0, 0, 1)]
def sc_52 : List sI := [(1, 1, 0, 1), (0, 0, 0, 1), (2, 0, 0, 1), (36, 50, 6161, 3), (0, 1, 0, 1), (16, 0, 0, 1), (36, 147, 51, 3), (42, 0, 0, 1)]
def sc_53 : List sI := [(1, 1, 0, 1), (0, 0, 0, 1), (2, 0, 0, 1), (8, 5, 7, 3), (0, 1, 0, 1), (16, 0, 0, 1), (36, 147, 51, 3), (42, 0, 0, 1)]
def sc_54 : List sI := [(1, 1, 0, 1), (46, 1, 0, 35), (1, 2, 0, 1), (0, 4294967287, 0, 2), (0, 9, 0, 2), (36, 147, 51, 3), (42, 0, 0, 1), (1, 2, 0, 1), (0, 0, 0, 1), (2, 0, 0, 1), (8, 5, 4, 3), (0, 1, 0, 1), (16, 0, 0, 1), (36, 147, 51, 3), (42, 0, 0, 1), (1, 2, 0, 1), (0, 0, 0, 1), (0, 3, 0, 1), (36, 147, 51, 3), (42, 0, 0, 1), (1, 2, 0, 1), (0, 0, 0, 1), (0, 1, 0, 1), (36, 147, 51, 3), (42, 0, 0, 1), (0, 0, 0, 1), (42, 0, 0, 1)]
def sc_55 : List sI := [(0, 0, 0, 1), (4, 2, 0, 1), (1, 2, 0, 1), (2, 0, 0, 1), (8, 5, 7, 3), (14, 3, 30, 3), (2, 0, 0, 1), (1, 2, 0, 1), (36, 49, 6178, 3), (8, 6, 1, 3), (1, 1, 0, 1), (14, 1, 24, 3), (1, 2, 0, 1), (41, 0, 0, 1), (7, 2, 1, 3), (12, 2, 0, 3), (0, 4294967294, 0, 2), (41, 0, 0, 1)]
def sc_56 : List sI := [(2, 0, 0, 1), (1, 1, 0, 1), (36, 55, 6194, 3), (0, 4294967294, 0, 2), (14, 1, 14, 3), (0, 1, 0, 1), (12, 15, 0, 3), (0, 0, 0, 1), (42, 0, 0, 1)]
def sc_57 : List sI := [(1, 1, 0, 1), (0, 1, 0, 1), (14, 0, 15, 3), (1, 2, 0, 1), (0, 4, 0, 1), (18, 0, 0, 1), (2, 0, 0, 1), (8, 5, 5, 3), (14, 2, 19, 3), (0, 1, 0, 1), (12, 20, 0, 3), (0, 0, 0, 1), (42, 0, 0, 1)]
def sc_58 : List sI := [(2, 0, 0, 1), (2, 0, 0, 1), (1, 1, 0, 1), (36, 49, 6178, 3), (8, 6, 2, 3), (1, 2, 0, 1), (36, 57, 6195, 3), (42, 0, 0, 1)]
def sc_59 : List sI := [(0, 0, 0, 1), (4, 2, 0, 1), (0, 0, 0, 1), (4, 3, 0, 1), (1, 3, 0, 1), (2, 0, 0, 1), (8, 5, 7, 3), (14, 3, 47, 3), (2, 0, 0, 1), (1, 3, 0, 1), (36, 49, 6178, 3), (5, 4, 0, 2), (2, 4, 0, 2), (8, 6, 2, 3), (13, 1, 41, 3), (2, 4, 0, 2), (8, 6, 1, 3), (0, 4, 0, 1), (18, 0, 0, 1), (1, 1, 0, 1), (14, 3, 41, 3), (7, 2, 1, 3), (7, 3, 1, 3), (12, 4, 0, 3), (1, 2, 0, 1), (41, 0, 0, 1)]
def sc_60 : List sI := [(1, 1, 0, 1), (0, 10, 0, 2), (17, 0, 0, 1), (1, 2, 0, 1), (15, 0, 0, 1), (4, 3, 0, 1), (1, 3, 0, 1), (13, 2, 29, 3), (1, 3, 0, 1), (2, 0, 0, 1), (8, 5, 2, 3), (29, 0, 0, 1), (14, 3, 29, 3), (2, 0, 0, 1), (8, 5, 2, 3), (1, 3, 0, 1), (23, 0, 0, 1), (12, 30, 0, 3), (0, 0, 0, 1), (41, 0, 0, 1)]
def sc_61 : List sI := [(2, 1, 0, 1), (8, 6, 1, 3), (0, 8, 0, 2), (18, 0, 0, 1), (0, 10, 0, 2), (17, 0, 0, 1), (2, 1, 0, 1), (8, 6, 3, 3), (15, 0, 0, 1), (4, 3, 0, 1), (1, 3, 0, 1), (13, 2, 39, 3), (1, 3, 0, 1), (2, 0, 0, 1), (8, 5, 2, 3), (29, 0, 0, 1), (14, 3, 39, 3), (2, 0, 0, 1), (8, 5, 2, 3), (1, 3, 0, 1), (34, 0, 0, 1), (23, 0, 0, 1), (1, 2, 0, 1), (15, 0, 0, 1), (26, 0, 0, 1), (40, 0, 0, 1)]
def sc_62 : List sI := [(2, 0, 0, 1), (8, 5, 7, 3), (2, 0, 0, 1), (8, 5, 0, 3), (29, 0, 0, 1), (14, 2, 13, 3), (40, 0, 0, 1), (2, 0, 0, 1), (2, 0, 0, 1), (8, 5, 7, 3), (36, 49, 6178, 3), (2, 1, 0, 1), (36, 103, 7202, 3), (2, 0, 0, 1), (2, 1, 0, 1), (0, 1, 0, 1), (36, 61, 6211, 3), (2, 0, 0, 1), (33, 0, 0, 1), (8, 5, 7, 3), (0, 1, 0, 1), (15, 0, 0, 1), (9, 5, 7, 3), (40, 0, 0, 1)]
def sc_63 : List sI := [(2, 0, 0, 1), (1, 1, 0, 1), (36, 49, 6178, 3), (5, 2, 0, 1), (2, 0, 0, 1), (8, 5, 3, 3), (0, 4, 0, 1), (1, 1, 0, 1), (2, 2, 0, 1), (8, 6, 1, 3), (36, 5, 1092, 3), (2, 0, 0, 1), (2, 2, 0, 1), (0, 4294967295, 0, 1), (36, 61, 6211, 3), (2, 0, 0, 1), (33, 0, 0, 1), (8, 5, 7, 3), (0, 1, 0, 1), (16, 0, 0, 1), (9, 5, 7, 3), (1, 1, 0, 1), (4, 3, 0, 1), (1, 3, 0, 1), (2, 0, 0, 1), (8, 5, 7, 3), (14, 3, 66, 3), (2, 0, 0, 1), (1, 3, 0, 1), (36, 49, 6178, 3), (2, 0, 0, 1), (1, 3, 0, 1), (0, 1, 0, 1), (15, 0, 0, 1), (36, 49, 6178, 3), (36, 103, 7202, 3), (7, 3, 1, 3), (12, 37, 0, 3), (2, 0, 0, 1), (33, 0, 0, 1), (8, 5, 12, 3), (0, 1, 0, 1), (15, 0, 0, 1), (9, 5, 12, 3), (40, 0, 0, 1)]
def sc_64 : List sI := [(2, 0, 0, 1), (33, 0, 0, 1), (8, 5, 6, 3), (0, 1, 0, 1), (15, 0, 0, 1), (9, 5, 6, 3), (2, 0, 0, 1), (8, 5, 7, 3), (0, 1, 0, 1), (16, 0, 0, 1), (4, 1, 0, 1), (1, 1, 0, 1), (13, 2, 47, 3), (2, 0, 0, 1), (1, 1, 0, 1), (36, 49, 6178, 3), (8, 6, 9, 3), (2, 0, 0, 1), (8, 5, 6, 3), (14, 1, 41, 3), (2, 0, 0, 1), (1, 1, 0, 1), (36, 63, 6210, 3), (7, 1, 4294967295, 3), (12, 17, 0, 3), (40, 0, 0, 1)]
def sc_65 : List sI := [(2, 0, 0, 1), (1, 1, 0, 1), (36, 49, 6178, 3), (5, 3, 0, 1), (1, 2, 0, 1), (0, 4, 0, 1), (18, 0, 0, 1), (4, 4, 0, 2), (1, 2, 0, 1), (0, 4, 0, 1), (19, 0, 0, 1), (4, 5, 0, 2), (0, 4, 0, 1), (2, 0, 0, 1), (2, 3, 0, 1), (1, 2, 0, 1), (0, 8, 0, 2), (18, 0, 0, 1), (36, 67, 6211, 3), (17, 0, 0, 1), (2, 3, 0, 1), (8, 6, 7, 3), (1, 4, 0, 2), (2, 3, 0, 1), (8, 6, 6, 3), (16, 0, 0, 1), (36, 270, 17, 3), (17, 0, 0, 1), (16, 0, 0, 1), (4, 6, 0, 2), (1, 5, 0, 2), (13, 0, 56, 3), (1, 5, 0, 2), (0, 3, 0, 1), (14, 1, 65, 3), (1, 6, 0, 2), (2, 3, 0, 1), (8, 6, 4, 3), (15, 0, 0, 1), (4, 6, 0, 2), (1, 4, 0, 2), (36, 68, 17, 3), (13, 0, 82, 3), (1, 6, 0, 2), (2, 3, 0, 1), (8, 6, 5, 3), (15, 0, 0, 1), (4, 6, 0, 2), (1, 6, 0, 2), (41, 0, 0, 1)]
def sc_66 : List sI := [(2, 0, 0, 1), (1, 1, 0, 1), (2, 0, 0, 1), (1, 1, 0, 1), (36, 49, 6178, 3), (8, 6, 1, 3), (36, 65, 6259, 3), (41, 0, 0, 1)]
def sc_67 : List sI := [(2, 1, 0, 1), (8, 6, 3, 3), (13, 1, 9, 3), (0, 0, 0, 1), (41, 0, 0, 1), (2, 0, 0, 1), (1, 2, 0, 1), (2, 1, 0, 1), (8, 6, 3, 3), (36, 60, 6211, 3), (4, 3, 0, 1), (2, 1, 0, 1), (8, 6, 1, 3), (0, 8, 0, 2), (18, 0, 0, 1), (1, 2, 0, 1), (14, 1, 36, 3), (1, 3, 0, 1), (0, 1, 0, 1), (16, 0, 0, 1), (12, 37, 0, 3), (1, 3, 0, 1), (41, 0, 0, 1)]
def sc_68 : List sI := [(1, 0, 0, 1), (0, 2, 0, 1), (19, 0, 0, 1), (0, 1, 0, 1), (14, 1, 11, 3), (0, 1, 0, 1), (12, 12, 0, 3), (0, 0, 0, 1), (42, 0, 0, 1)]
def sc_69 : List sI := [(0, 0, 0, 1), (4, 1, 0, 1), (0, 0, 0, 1), (4, 2, 0, 1), (1, 2, 0, 1), (2, 0, 0, 1), (8, 5, 7, 3), (14, 3, 26, 3), (1, 1, 0, 1), (2, 0, 0, 1), (1, 2, 0, 1), (36, 66, 6178, 3), (15, 0, 0, 1), (4, 1, 0, 1), (7, 2, 1, 3), (12, 4, 0, 3), (1, 1, 0, 1), (41, 0, 0, 1)]
def sc_70 : List sI := [(0, 0, 0, 1), (4, 1, 0, 1), (0, 0, 0, 1), (4, 2, 0, 1), (1, 2, 0, 1), (2, 0, 0, 1), (8, 5, 7, 3), (14, 3, 29, 3), (2, 0, 0, 1), (1, 2, 0, 1), (36, 66, 6178, 3), (13, 3, 23, 3), (7, 1, 1, 3), (7, 2, 1, 3), (12, 4, 0, 3), (1, 1, 0, 1), (41, 0, 0, 1)]
def sc_71 : List sI := [(2, 0, 0, 1), (1, 1, 0, 1), (36, 66, 6178, 3), (4, 2, 0, 1), (0, 0, 0, 1), (4, 3, 0, 1), (0, 0, 0, 1), (4, 4, 0, 2), (1, 4, 0, 2), (2, 0, 0, 1), (8, 5, 7, 3), (14, 3, 55, 3), (2, 0, 0, 1), (1, 4, 0, 2), (36, 66, 6178, 3), (4, 5, 0, 2), (1, 5, 0, 2), (1, 2, 0, 1), (14, 4, 46, 3), (1, 5, 0, 2), (1, 2, 0, 1), (14, 1, 49, 3), (1, 4, 0, 2), (1, 1, 0, 1), (14, 3, 49, 3), (7, 3, 1, 3), (7, 4, 1, 3), (12, 11, 0, 3), (1, 3, 0, 1), (41, 0, 0, 1)]
def sc_72 : List sI := [(0, 0, 0, 1), (4, 2, 0, 1), (1, 2, 0, 1), (2, 0, 0, 1), (8, 5, 7, 3), (14, 3, 27, 3), (2, 0, 0, 1), (1, 2, 0, 1), (36, 71, 6242, 3), (1, 1, 0, 1), (14, 1, 21, 3), (1, 2, 0, 1), (41, 0, 0, 1), (7, 2, 1, 3), (12, 2, 0, 3), (0, 4294967294, 0, 2), (41, 0, 0, 1)]
def sc_73 : List sI := [(2, 0, 0, 1), (1, 1, 0, 1), (36, 49, 6178, 3), (8, 6, 1, 3), (0, 8, 0, 2), (18, 0, 0, 1), (1, 2, 0, 1), (14, 1, 19, 3), (0, 1, 0, 1), (12, 20, 0, 3), (0, 0, 0, 1), (42, 0, 0, 1)]
def sc_74 : List sI := [(0, 0, 0, 1), (4, 2, 0, 1), (0, 0, 0, 1), (4, 3, 0, 1), (1, 3, 0, 1), (2, 0, 0, 1), (8, 5, 7, 3), (14, 3, 30, 3), (2, 0, 0, 1), (1, 3, 0, 1), (1, 1, 0, 1), (36, 73, 6195, 3), (13, 0, 24, 3), (7, 2, 1, 3), (7, 3, 1, 3), (12, 4, 0, 3), (1, 2, 0, 1), (41, 0, 0, 1)]
def sc_75 : List sI := [(0, 0, 0, 1), (4, 2, 0, 1), (0, 0, 0, 1), (4, 3, 0, 1), (1, 3, 0, 1), (2, 0, 0, 1), (8, 5, 7, 3), (14, 3, 38, 3), (2, 0, 0, 1), (1, 3, 0, 1), (1, 1, 0, 1), (36, 73, 6195, 3), (13, 0, 32, 3), (2, 0, 0, 1), (1, 3, 0, 1), (36, 66, 6178, 3), (13, 3, 32, 3), (7, 2, 1, 3), (7, 3, 1, 3), (12, 4, 0, 3), (1, 2, 0, 1), (41, 0, 0, 1)]
def sc_76 : List sI := [(0, 0, 0, 1), (4, 2, 0, 1), (0, 0, 0, 1), (4, 3, 0, 1), (1, 3, 0, 1), (2, 0, 0, 1), (8, 5, 7, 3), (14, 3, 35, 3), (2, 0, 0, 1), (1, 3, 0, 1), (1, 1, 0, 1), (36, 73, 6195, 3), (13, 0, 29, 3), (1, 2, 0, 1), (2, 0, 0, 1), (1, 3, 0, 1), (36, 66, 6178, 3), (15, 0, 0, 1), (4, 2, 0, 1), (7, 3, 1, 3), (12, 4, 0, 3), (1, 2, 0, 1), (41, 0, 0, 1)]
def sc_77 : List sI := [(0, 0, 0, 1), (4, 2, 0, 1), (0, 0, 0, 1), (4, 3, 0, 1), (0, 1, 0, 1), (4, 4, 0, 2), (1, 4, 0, 2), (0, 9, 0, 2), (14, 4, 41, 3), (2, 0, 0, 1), (1, 1, 0, 1), (1, 4, 0, 2), (36, 60, 6211, 3), (4, 5, 0, 2), (1, 5, 0, 2), (1, 3, 0, 1), (14, 5, 35, 3), (1, 5, 0, 2), (4, 3, 0, 1), (1, 4, 0, 2), (4, 2, 0, 1), (7, 4, 1, 3), (12, 7, 0, 3), (1, 2, 0, 1), (41, 0, 0, 1)]
def sc_78 : List sI := [(0, 0, 0, 1), (4, 2, 0, 1), (0, 0, 0, 1), (4, 3, 0, 1), (1, 3, 0, 1), (0, 5, 0, 1), (14, 3, 24, 3), (1, 2, 0, 1), (2, 0, 0, 1), (1, 3, 0, 1), (1, 1, 0, 1), (36, 60, 6211, 3), (15, 0, 0, 1), (4, 2, 0, 1), (7, 3, 1, 3), (12, 4, 0, 3), (1, 2, 0, 1), (41, 0, 0, 1)]
def sc_79 : List sI := [(0, 0, 0, 1), (4, 2, 0, 1), (0, 0, 0, 1), (4, 3, 0, 1), (1, 3, 0, 1), (0, 5, 0, 1), (14, 3, 27, 3), (2, 0, 0, 1), (1, 3, 0, 1), (1, 1, 0, 1), (36, 60, 6211, 3), (13, 5, 21, 3), (7, 2, 1, 3), (7, 3, 1, 3), (12, 4, 0, 3), (1, 2, 0, 1), (41, 0, 0, 1)]
def sc_80 : List sI := [(0, 0, 0, 1), (4, 2, 0, 1), (0, 0, 0, 1), (4, 3, 0, 1), (1, 3, 0, 1), (2, 0, 0, 1), (8, 5, 7, 3), (14, 3, 38, 3), (2, 0, 0, 1), (1, 3, 0, 1), (36, 49, 6178, 3), (8, 6, 3, 3), (1, 1, 0, 1), (14, 1, 32, 3), (1, 2, 0, 1), (2, 0, 0, 1), (1, 3, 0, 1), (36, 66, 6178, 3), (15, 0, 0, 1), (4, 2, 0, 1), (7, 3, 1, 3), (12, 4, 0, 3), (1, 2, 0, 1), (41, 0, 0, 1)]
def sc_81 : List sI := [(0, 0, 0, 1), (4, 1, 0, 1), (0, 1, 0, 1), (4, 2, 0, 1), (1, 2, 0, 1), (0, 9, 0, 2), (14, 4, 27, 3), (2, 0, 0, 1), (1, 2, 0, 1), (36, 78, 6210, 3), (13, 5, 21, 3), (7, 1, 1, 3), (7, 2, 1, 3), (12, 4, 0, 3), (1, 1, 0, 1), (41, 0, 0, 1)]
def sc_82 : List sI := [(0, 0, 0, 1), (4, 1, 0, 1), (0, 0, 0, 1), (4, 2, 0, 1), (1, 2, 0, 1), (2, 0, 0, 1), (8, 5, 7, 3), (14, 3, 29, 3), (1, 1, 0, 1), (2, 0, 0, 1), (1, 2, 0, 1), (36, 49, 6178, 3), (8, 6, 8, 3), (15, 0, 0, 1), (4, 1, 0, 1), (7, 2, 1, 3), (12, 4, 0, 3), (1, 1, 0, 1), (41, 0, 0, 1)]
def sc_83 : List sI := [(2, 0, 0, 1), (1, 1, 0, 1), (36, 49, 6178, 3), (5, 3, 0, 1), (2, 0, 0, 1), (2, 3, 0, 1), (0, 4294967295, 0, 1), (36, 61, 6211, 3), (2, 3, 0, 1), (1, 2, 0, 1), (9, 6, 1, 3), (2, 0, 0, 1), (2, 3, 0, 1), (0, 1, 0, 1), (36, 61, 6211, 3), (40, 0, 0, 1)]
def sc_84 : List sI := [(2, 0, 0, 1), (1, 1, 0, 1), (36, 49, 6178, 3), (8, 6, 1, 3), (4, 3, 0, 1), (2, 0, 0, 1), (1, 1, 0, 1), (2, 0, 0, 1), (1, 2, 0, 1), (36, 49, 6178, 3), (8, 6, 1, 3), (36, 83, 6211, 3), (2, 0, 0, 1), (1, 2, 0, 1), (1, 3, 0, 1), (36, 83, 6211, 3), (40, 0, 0, 1)]
def sc_85 : List sI := [(2, 0, 0, 1), (1, 1, 0, 1), (36, 49, 6178, 3), (8, 6, 1, 3), (4, 4, 0, 2), (2, 0, 0, 1), (1, 1, 0, 1), (2, 0, 0, 1), (1, 2, 0, 1), (36, 49, 6178, 3), (8, 6, 1, 3), (36, 83, 6211, 3), (2, 0, 0, 1), (1, 2, 0, 1), (2, 0, 0, 1), (1, 3, 0, 1), (36, 49, 6178, 3), (8, 6, 1, 3), (36, 83, 6211, 3), (2, 0, 0, 1), (1, 3, 0, 1), (1, 4, 0, 2), (36, 83, 6211, 3), (40, 0, 0, 1)]
def sc_86 : List sI := [(2, 0, 0, 1), (1, 1, 0, 1), (36, 66, 6178, 3), (4, 3, 0, 1), (2, 0, 0, 1), (1, 1, 0, 1), (1, 2, 0, 1), (36, 84, 6211, 3), (2, 0, 0, 1), (1, 1, 0, 1), (36, 66, 6178, 3), (1, 3, 0, 1), (16, 0, 0, 1), (4, 4, 0, 2), (2, 0, 0, 1), (1, 1, 0, 1), (1, 2, 0, 1), (36, 84, 6211, 3), (1, 4, 0, 2), (41, 0, 0, 1)]
def sc_87 : List sI := [(2, 0, 0, 1), (1, 1, 0, 1), (1, 2, 0, 1), (36, 84, 6211, 3), (2, 0, 0, 1), (36, 69, 6193, 3), (4, 3, 0, 1), (2, 0, 0, 1), (1, 1, 0, 1), (1, 2, 0, 1), (36, 84, 6211, 3), (1, 3, 0, 1), (41, 0, 0, 1)]
def sc_88 : List sI := [(2, 0, 0, 1), (1, 1, 0, 1), (2, 0, 0, 1), (1, 2, 0, 1), (36, 49, 6178, 3), (8, 6, 1, 3), (36, 58, 6195, 3), (13, 0, 32, 3), (2, 0, 0, 1), (1, 2, 0, 1), (2, 0, 0, 1), (1, 1, 0, 1), (36, 49, 6178, 3), (8, 6, 1, 3), (36, 58, 6195, 3), (13, 1, 34, 3), (0, 1, 0, 1), (41, 0, 0, 1), (2, 0, 0, 1), (1, 1, 0, 1), (36, 49, 6178, 3), (8, 6, 8, 3), (1, 3, 0, 1), (14, 3, 48, 3), (0, 2, 0, 1), (41, 0, 0, 1), (2, 0, 0, 1), (1, 1, 0, 1), (36, 66, 6178, 3), (4, 4, 0, 2), (2, 0, 0, 1), (1, 2, 0, 1), (36, 66, 6178, 3), (4, 5, 0, 2), (2, 0, 0, 1), (1, 1, 0, 1), (1, 2, 0, 1), (36, 84, 6211, 3), (2, 0, 0, 1), (1, 1, 0, 1), (36, 66, 6178, 3), (1, 4, 0, 2), (16, 0, 0, 1), (4, 6, 0, 2), (2, 0, 0, 1), (1, 2, 0, 1), (36, 66, 6178, 3), (1, 5, 0, 2), (16, 0, 0, 1), (4, 7, 0, 2), (2, 0, 0, 1), (1, 1, 0, 1), (1, 2, 0, 1), (36, 84, 6211, 3), (1, 6, 0, 2), (1, 3, 0, 1), (14, 3, 102, 3), (0, 3, 0, 1), (41, 0, 0, 1), (1, 7, 0, 2), (1, 3, 0, 1), (51, 0, 0, 1), (14, 3, 113, 3), (0, 4, 0, 1), (12, 114, 0, 3), (0, 0, 0, 1), (41, 0, 0, 1)]
def sc_89 : List sI := [(2, 0, 0, 1), (1, 1, 0, 1), (1, 2, 0, 1), (36, 84, 6211, 3), (2, 0, 0, 1), (1, 1, 0, 1), (36, 49, 6178, 3), (33, 0, 0, 1), (8, 6, 8, 3), (1, 3, 0, 1), (16, 0, 0, 1), (9, 6, 8, 3), (2, 0, 0, 1), (1, 2, 0, 1), (36, 49, 6178, 3), (33, 0, 0, 1), (8, 6, 8, 3), (1, 3, 0, 1), (15, 0, 0, 1), (9, 6, 8, 3), (2, 0, 0, 1), (33, 0, 0, 1), (8, 5, 8, 3), (0, 1, 0, 1), (15, 0, 0, 1), (9, 5, 8, 3), (2, 0, 0, 1), (33, 0, 0, 1), (8, 5, 11, 3), (1, 3, 0, 1), (15, 0, 0, 1), (9, 5, 11, 3), (2, 0, 0, 1), (8, 5, 3, 3), (0, 1, 0, 1), (0, 100, 0, 2), (1, 1, 0, 1), (17, 0, 0, 1), (1, 2, 0, 1), (15, 0, 0, 1), (1, 3, 0, 1), (36, 5, 1092, 3), (40, 0, 0, 1)]
def sc_90 : List sI := [(2, 0, 0, 1), (1, 2, 0, 1), (36, 56, 6178, 3), (13, 1, 10, 3), (0, 5, 0, 1), (41, 0, 0, 1), (2, 0, 0, 1), (1, 1, 0, 1), (1, 2, 0, 1), (36, 58, 6195, 3), (13, 1, 21, 3), (0, 1, 0, 1), (41, 0, 0, 1), (2, 0, 0, 1), (1, 1, 0, 1), (1, 2, 0, 1), (36, 65, 6259, 3), (2, 0, 0, 1), (1, 1, 0, 1), (36, 66, 6178, 3), (14, 3, 40, 3), (0, 6, 0, 2), (12, 41, 0, 3), (0, 0, 0, 1), (41, 0, 0, 1)]
def sc_91 : List sI := [(2, 0, 0, 1), (1, 1, 0, 1), (36, 49, 6178, 3), (8, 6, 1, 3), (4, 3, 0, 1), (2, 0, 0, 1), (1, 1, 0, 1), (1, 2, 0, 1), (36, 83, 6211, 3), (2, 0, 0, 1), (33, 0, 0, 1), (8, 5, 9, 3), (0, 1, 0, 1), (15, 0, 0, 1), (9, 5, 9, 3), (2, 0, 0, 1), (8, 5, 3, 3), (0, 2, 0, 1), (1, 1, 0, 1), (1, 3, 0, 1), (36, 5, 1092, 3), (40, 0, 0, 1)]
def sc_92 : List sI := [(2, 0, 0, 1), (1, 1, 0, 1), (2, 0, 0, 1), (1, 2, 0, 1), (36, 49, 6178, 3), (8, 6, 1, 3), (36, 58, 6195, 3), (13, 0, 48, 3), (2, 0, 0, 1), (1, 2, 0, 1), (2, 0, 0, 1), (1, 3, 0, 1), (36, 49, 6178, 3), (8, 6, 1, 3), (36, 58, 6195, 3), (13, 0, 48, 3), (2, 0, 0, 1), (1, 3, 0, 1), (2, 0, 0, 1), (1, 1, 0, 1), (36, 49, 6178, 3), (8, 6, 1, 3), (36, 58, 6195, 3), (13, 1, 50, 3), (0, 1, 0, 1), (41, 0, 0, 1), (2, 0, 0, 1), (1, 1, 0, 1), (36, 66, 6178, 3), (4, 4, 0, 2), (2, 0, 0, 1), (1, 2, 0, 1), (36, 66, 6178, 3), (4, 5, 0, 2), (2, 0, 0, 1), (1, 3, 0, 1), (36, 66, 6178, 3), (4, 6, 0, 2), (2, 0, 0, 1), (1, 1, 0, 1), (1, 2, 0, 1), (1, 3, 0, 1), (36, 85, 6228, 3), (2, 0, 0, 1), (1, 1, 0, 1), (36, 66, 6178, 3), (1, 4, 0, 2), (14, 2, 108, 3), (2, 0, 0, 1), (1, 2, 0, 1), (36, 66, 6178, 3), (1, 5, 0, 2), (14, 2, 108, 3), (2, 0, 0, 1), (1, 3, 0, 1), (36, 66, 6178, 3), (1, 6, 0, 2), (14, 3, 112, 3), (0, 1, 0, 1), (12, 113, 0, 3), (0, 0, 0, 1), (4, 7, 0, 2), (2, 0, 0, 1), (1, 3, 0, 1), (1, 2, 0, 1), (1, 1, 0, 1), (36, 85, 6228, 3), (1, 7, 0, 2), (13, 0, 132, 3), (0, 6, 0, 2), (12, 133, 0, 3), (0, 0, 0, 1), (41, 0, 0, 1)]
def sc_93 : List sI := [(2, 0, 0, 1), (1, 1, 0, 1), (36, 66, 6178, 3), (2, 0, 0, 1), (1, 2, 0, 1), (36, 66, 6178, 3), (15, 0, 0, 1), (2, 0, 0, 1), (1, 3, 0, 1), (36, 66, 6178, 3), (15, 0, 0, 1), (4, 4, 0, 2), (2, 0, 0, 1), (1, 1, 0, 1), (1, 2, 0, 1), (1, 3, 0, 1), (36, 85, 6228, 3), (2, 0, 0, 1), (1, 1, 0, 1), (36, 66, 6178, 3), (2, 0, 0, 1), (1, 2, 0, 1), (36, 66, 6178, 3), (15, 0, 0, 1), (2, 0, 0, 1), (1, 3, 0, 1), (36, 66, 6178, 3), (15, 0, 0, 1), (1, 4, 0, 2), (16, 0, 0, 1), (4, 5, 0, 2), (2, 0, 0, 1), (1, 3, 0, 1), (1, 2, 0, 1), (1, 1, 0, 1), (36, 85, 6228, 3), (1, 5, 0, 2), (41, 0, 0, 1)]
def sc_94 : List sI := [(2, 0, 0, 1), (1, 1, 0, 1), (1, 2, 0, 1), (1, 3, 0, 1), (36, 85, 6228, 3), (2, 0, 0, 1), (33, 0, 0, 1), (8, 5, 10, 3), (0, 1, 0, 1), (15, 0, 0, 1), (9, 5, 10, 3), (2, 0, 0, 1), (8, 5, 3, 3), (0, 3, 0, 1), (0, 10000, 0, 3), (1, 1, 0, 1), (17, 0, 0, 1), (0, 100, 0, 2), (1, 2, 0, 1), (17, 0, 0, 1), (15, 0, 0, 1), (1, 3, 0, 1), (15, 0, 0, 1), (0, 0, 0, 1), (36, 5, 1092, 3), (40, 0, 0, 1)]
def sc_95 : List sI := [(0, 0, 0, 1), (4, 1, 0, 1), (0, 0, 0, 1), (4, 2, 0, 1), (1, 2, 0, 1), (2, 0, 0, 1), (8, 5, 7, 3), (14, 3, 87, 3), (1, 2, 0, 1), (0, 1, 0, 1), (15, 0, 0, 1), (4, 3, 0, 1), (1, 3, 0, 1), (2, 0, 0, 1), (8, 5, 7, 3), (14, 3, 81, 3), (1, 2, 0, 1), (0, 1, 0, 1), (15, 0, 0, 1), (4, 4, 0, 2), (1, 4, 0, 2), (2, 0, 0, 1), (8, 5, 7, 3), (14, 3, 75, 3), (1, 3, 0, 1), (1, 4, 0, 2), (14, 0, 69, 3), (2, 0, 0, 1), (1, 2, 0, 1), (1, 3, 0, 1), (1, 4, 0, 2), (36, 92, 6276, 3), (13, 1, 69, 3), (2, 0, 0, 1), (1, 2, 0, 1), (1, 3, 0, 1), (1, 4, 0, 2), (36, 93, 6244, 3), (13, 5, 69, 3), (7, 1, 1, 3), (7, 4, 1, 3), (12, 29, 0, 3), (7, 3, 1, 3), (12, 16, 0, 3), (7, 2, 1, 3), (12, 4, 0, 3), (1, 1, 0, 1), (41, 0, 0, 1)]
def sc_96 : List sI := [(0, 4294967294, 0, 2), (4, 2, 0, 1), (0, 0, 0, 1), (4, 3, 0, 1), (0, 0, 0, 1), (4, 4, 0, 2), (1, 4, 0, 2), (2, 0, 0, 1), (36, 50, 6161, 3), (14, 3, 60, 3), (2, 0, 0, 1), (1, 1, 0, 1), (1, 4, 0, 2), (36, 90, 6195, 3), (13, 1, 54, 3), (2, 0, 0, 1), (1, 1, 0, 1), (1, 4, 0, 2), (36, 65, 6259, 3), (4, 5, 0, 2), (1, 2, 0, 1), (0, 4294967294, 0, 2), (14, 0, 48, 3), (1, 5, 0, 2), (1, 3, 0, 1), (14, 5, 54, 3), (1, 4, 0, 2), (4, 2, 0, 1), (1, 5, 0, 2), (4, 3, 0, 1), (7, 4, 1, 3), (12, 8, 0, 3), (1, 2, 0, 1), (41, 0, 0, 1)]
def sc_97 : List sI := [(0, 4294967294, 0, 2), (4, 2, 0, 1), (0, 0, 0, 1), (4, 3, 0, 1), (0, 0, 0, 1), (4, 4, 0, 2), (1, 4, 0, 2), (2, 0, 0, 1), (8, 5, 7, 3), (14, 3, 61, 3), (1, 4, 0, 2), (1, 1, 0, 1), (14, 0, 55, 3), (2, 0, 0, 1), (1, 1, 0, 1), (1, 4, 0, 2), (0, 0, 0, 1), (36, 88, 6276, 3), (13, 1, 55, 3), (2, 0, 0, 1), (1, 1, 0, 1), (1, 4, 0, 2), (36, 86, 6227, 3), (4, 5, 0, 2), (1, 5, 0, 2), (1, 3, 0, 1), (14, 5, 55, 3), (1, 4, 0, 2), (4, 2, 0, 1), (1, 5, 0, 2), (4, 3, 0, 1), (7, 4, 1, 3), (12, 8, 0, 3), (1, 2, 0, 1), (41, 0, 0, 1)]
def sc_98 : List sI := [(2, 0, 0, 1), (36, 69, 6193, 3), (4, 1, 0, 1), (0, 4294967294, 0, 2), (4, 2, 0, 1), (0, 4294967294, 0, 2), (4, 3, 0, 1), (0, 0, 0, 1), (4, 4, 0, 2), (1, 4, 0, 2), (2, 0, 0, 1), (8, 5, 7, 3), (14, 3, 102, 3), (1, 4, 0, 2), (0, 1, 0, 1), (15, 0, 0, 1), (4, 5, 0, 2), (1, 5, 0, 2), (2, 0, 0, 1), (8, 5, 7, 3), (14, 3, 96, 3), (2, 0, 0, 1), (1, 4, 0, 2), (1, 5, 0, 2), (0, 0, 0, 1), (36, 88, 6276, 3), (13, 0, 53, 3), (12, 90, 0, 3), (2, 0, 0, 1), (1, 4, 0, 2), (1, 5, 0, 2), (36, 84, 6211, 3), (2, 0, 0, 1), (36, 69, 6193, 3), (4, 6, 0, 2), (2, 0, 0, 1), (1, 4, 0, 2), (1, 5, 0, 2), (36, 84, 6211, 3), (1, 6, 0, 2), (1, 1, 0, 1), (14, 5, 90, 3), (1, 6, 0, 2), (4, 1, 0, 1), (1, 4, 0, 2), (4, 2, 0, 1), (1, 5, 0, 2), (4, 3, 0, 1), (7, 5, 1, 3), (12, 29, 0, 3), (7, 4, 1, 3), (12, 14, 0, 3), (1, 2, 0, 1), (0, 4294967294, 0, 2), (14, 1, 110, 3), (0, 0, 0, 1), (42, 0, 0, 1), (2, 0, 0, 1), (1, 2, 0, 1), (1, 3, 0, 1), (36, 84, 6211, 3), (0, 1, 0, 1), (42, 0, 0, 1)]
def sc_99 : List sI := [(1, 2, 0, 1), (50, 1, 0, 35), (1, 1, 0, 1), (2, 0, 0, 1), (8, 5, 5, 3), (14, 3, 49, 3), (0, 61, 0, 2), (12, 51, 0, 3), (0, 45, 0, 2), (41, 0, 0, 1), (1, 1, 0, 1), (36, 68, 17, 3), (13, 0, 64, 3), (0, 62, 0, 2), (12, 66, 0, 3), (0, 60, 0, 2), (41, 0, 0, 1), (0, 10, 0, 2), (41, 0, 0, 1), (2, 0, 0, 1), (1, 1, 0, 1), (0, 4, 0, 1), (17, 0, 0, 1), (1, 2, 0, 1), (15, 0, 0, 1), (0, 2, 0, 1), (16, 0, 0, 1), (36, 100, 6194, 3), (41, 0, 0, 1)]
def sc_100 : List sI := [(2, 0, 0, 1), (1, 1, 0, 1), (36, 55, 6194, 3), (4, 2, 0, 1), (1, 2, 0, 1), (0, 4294967294, 0, 2), (14, 1, 15, 3), (0, 46, 0, 2), (41, 0, 0, 1), (2, 0, 0, 1), (1, 2, 0, 1), (36, 66, 6178, 3), (13, 3, 28, 3), (0, 65, 0, 2), (12, 30, 0, 3), (0, 97, 0, 2), (2, 0, 0, 1), (1, 2, 0, 1), (36, 49, 6178, 3), (0, 0, 0, 1), (36, 106, 7202, 3), (15, 0, 0, 1), (0, 1, 0, 1), (16, 0, 0, 1), (41, 0, 0, 1)]
def sc_101 : List sI := [(2, 0, 0, 1), (37, 0, 0, 3), (40, 0, 0, 1)]
def sc_102 : List sI := [(2, 0, 0, 1), (0, 0, 0, 1), (9, 6, 0, 3), (2, 0, 0, 1), (0, 0, 0, 1), (9, 6, 1, 3), (2, 0, 0, 1), (0, 0, 0, 1), (9, 6, 2, 3), (2, 0, 0, 1), (0, 0, 0, 1), (9, 6, 3, 3), (2, 0, 0, 1), (0, 0, 0, 1), (9, 6, 4, 3), (2, 0, 0, 1), (0, 0, 0, 1), (9, 6, 5, 3), (2, 0, 0, 1), (0, 0, 0, 1), (9, 6, 6, 3), (2, 0, 0, 1), (0, 0, 0, 1), (9, 6, 7, 3), (2, 0, 0, 1), (0, 0, 0, 1), (9, 6, 8, 3), (2, 0, 0, 1), (0, 99, 0, 2), (9, 6, 9, 3), (40, 0, 0, 1)]
def sc_103 : List sI := [(2, 0, 0, 1), (2, 1, 0, 1), (8, 6, 0, 3), (9, 6, 0, 3), (2, 0, 0, 1), (2, 1, 0, 1), (8, 6, 1, 3), (9, 6, 1, 3), (2, 0, 0, 1), (2, 1, 0, 1), (8, 6, 2, 3), (9, 6, 2, 3), (2, 0, 0, 1), (2, 1, 0, 1), (8, 6, 3, 3), (9, 6, 3, 3), (2, 0, 0, 1), (2, 1, 0, 1), (8, 6, 4, 3), (9, 6, 4, 3), (2, 0, 0, 1), (2, 1, 0, 1), (8, 6, 5, 3), (9, 6, 5, 3), (2, 0, 0, 1), (2, 1, 0, 1), (8, 6, 6, 3), (9, 6, 6, 3), (2, 0, 0, 1), (2, 1, 0, 1), (8, 6, 7, 3), (9, 6, 7, 3), (2, 0, 0, 1), (2, 1, 0, 1), (8, 6, 8, 3), (9, 6, 8, 3), (2, 0, 0, 1), (2, 1, 0, 1), (8, 6, 9, 3), (9, 6, 9, 3), (40, 0, 0, 1)]
def sc_104 : List sI := [(1, 1, 0, 1), (46, 1, 0, 31), (2, 0, 0, 1), (8, 6, 4, 3), (41, 0, 0, 1), (2, 0, 0, 1), (8, 6, 5, 3), (41, 0, 0, 1), (2, 0, 0, 1), (8, 6, 6, 3), (41, 0, 0, 1), (2, 0, 0, 1), (8, 6, 7, 3), (41, 0, 0, 1), (2, 0, 0, 1), (8, 6, 2, 3), (41, 0, 0, 1)]
def sc_105 : List sI := [(1, 1, 0, 1), (46, 1, 0, 31), (2, 0, 0, 1), (1, 2, 0, 1), (9, 6, 4, 3), (12, 69, 0, 3), (2, 0, 0, 1), (1, 2, 0, 1), (9, 6, 5, 3), (12, 69, 0, 3), (2, 0, 0, 1), (1, 2, 0, 1), (9, 6, 6, 3), (12, 69, 0, 3), (2, 0, 0, 1), (1, 2, 0, 1), (9, 6, 7, 3), (12, 69, 0, 3), (2, 0, 0, 1), (1, 2, 0, 1), (9, 6, 2, 3), (40, 0, 0, 1)]
def sc_106 : List sI := [(1, 1, 0, 1), (0, 5, 0, 1), (14, 3, 19, 3), (2, 0, 0, 1), (8, 6, 0, 3), (0, 5, 0, 1), (1, 1, 0, 1), (17, 0, 0, 1), (21, 0, 0, 1), (0, 31, 0, 2), (20, 0, 0, 1), (12, 20, 0, 3), (0, 0, 0, 1), (41, 0, 0, 1)]
def sc_107 : List sI := [(2, 0, 0, 1), (37, 0, 0, 3), (2, 0, 0, 1), (30, 2, 0, 3), (33, 0, 0, 1), (36, 12, 3089, 3), (11, 7, 1, 3), (2, 0, 0, 1), (2, 0, 0, 1), (8, 7, 1, 3), (8, 2, 0, 3), (11, 7, 0, 3), (2, 0, 0, 1), (30, 3, 0, 3), (33, 0, 0, 1), (36, 33, 4113, 3), (11, 7, 2, 3), (2, 0, 0, 1), (30, 5, 0, 3), (33, 0, 0, 1), (36, 46, 6177, 3), (11, 7, 3, 3), (2, 0, 0, 1), (30, 5, 0, 3), (33, 0, 0, 1), (36, 46, 6177, 3), (11, 7, 4, 3), (2, 0, 0, 1), (30, 6, 0, 3), (33, 0, 0, 1), (36, 101, 7185, 3), (11, 7, 5, 3), (2, 0, 0, 1), (0, 2, 0, 1), (32, 3, 0, 3), (11, 7, 6, 3), (0, 0, 0, 1), (4, 1, 0, 1), (1, 1, 0, 1), (0, 2, 0, 1), (14, 3, 104, 3), (2, 0, 0, 1), (8, 7, 6, 3), (1, 1, 0, 1), (30, 5, 0, 3), (33, 0, 0, 1), (36, 46, 6177, 3), (28, 0, 0, 1), (7, 1, 1, 3), (12, 80, 0, 3), (2, 0, 0, 1), (0, 2, 0, 1), (31, 1, 0, 2), (11, 7, 7, 3), (2, 0, 0, 1), (30, 1, 0, 3), (33, 0, 0, 1), (36, 7, 2081, 3), (11, 7, 8, 3), (2, 0, 0, 1), (0, 4294967294, 0, 2), (9, 7, 9, 3), (40, 0, 0, 1)]
def sc_108 : List sI := [(2, 0, 0, 1), (8, 7, 0, 3), (36, 42, 5137, 3), (13, 1, 12, 3), (0, 4294967295, 0, 1), (41, 0, 0, 1), (2, 0, 0, 1), (8, 7, 0, 3), (1, 1, 0, 1), (36, 43, 5170, 3), (2, 0, 0, 1), (8, 7, 0, 3), (1, 2, 0, 1), (36, 43, 5170, 3), (2, 0, 0, 1), (8, 7, 0, 3), (1, 3, 0, 1), (36, 43, 5170, 3), (2, 0, 0, 1), (8, 7, 0, 3), (1, 4, 0, 2), (36, 43, 5170, 3), (2, 0, 0, 1), (8, 7, 0, 3), (1, 5, 0, 2), (36, 43, 5170, 3), (2, 0, 0, 1), (8, 7, 0, 3), (8, 4, 1, 3), (41, 0, 0, 1)]
def sc_109 : List sI := [(1, 1, 0, 1), (0, 0, 0, 1), (2, 0, 0, 1), (8, 7, 0, 3), (8, 4, 1, 3), (36, 147, 51, 3), (13, 1, 17, 3), (0, 4294967295, 0, 1), (41, 0, 0, 1), (2, 0, 0, 1), (8, 7, 0, 3), (33, 0, 0, 1), (8, 4, 1, 3), (1, 1, 0, 1), (16, 0, 0, 1), (9, 4, 1, 3), (2, 0, 0, 1), (8, 7, 0, 3), (8, 4, 1, 3), (41, 0, 0, 1)]
def sc_110 : List sI := [(2, 0, 0, 1), (8, 7, 1, 3), (2, 0, 0, 1), (8, 7, 4, 3), (36, 31, 3122, 3), (4, 1, 0, 1), (2, 0, 0, 1), (1, 1, 0, 1), (13, 0, 22, 3), (0, 4294967294, 0, 2), (12, 29, 0, 3), (2, 0, 0, 1), (8, 7, 1, 3), (8, 2, 2, 3), (9, 7, 9, 3), (2, 0, 0, 1), (8, 7, 0, 3), (0, 0, 0, 1), (9, 4, 1, 3), (1, 1, 0, 1), (13, 1, 46, 3), (0, 4294967295, 0, 1), (41, 0, 0, 1), (2, 0, 0, 1), (8, 7, 3, 3), (2, 0, 0, 1), (8, 7, 4, 3), (36, 48, 6194, 3), (0, 0, 0, 1), (4, 2, 0, 1), (1, 2, 0, 1), (0, 2, 0, 1), (14, 3, 77, 3), (2, 0, 0, 1), (8, 7, 7, 3), (1, 2, 0, 1), (0, 0, 0, 1), (27, 0, 0, 1), (7, 2, 1, 3), (12, 59, 0, 3), (2, 0, 0, 1), (8, 7, 8, 3), (36, 8, 2065, 3), (2, 0, 0, 1), (8, 7, 3, 3), (8, 5, 7, 3), (41, 0, 0, 1)]
def sc_111 : List sI := [(2, 0, 0, 1), (8, 7, 9, 3), (41, 0, 0, 1)]
def sc_112 : List sI := [(2, 0, 0, 1), (8, 7, 3, 3), (1, 1, 0, 1), (36, 52, 6178, 3), (13, 0, 62, 3), (1, 2, 0, 1), (0, 0, 0, 1), (0, 1, 0, 1), (36, 147, 51, 3), (13, 0, 62, 3), (1, 3, 0, 1), (0, 0, 0, 1), (0, 9, 0, 2), (36, 147, 51, 3), (13, 0, 62, 3), (1, 4, 0, 2), (0, 0, 0, 1), (0, 99, 0, 2), (36, 147, 51, 3), (13, 0, 62, 3), (1, 5, 0, 2), (0, 1, 0, 1), (0, 99, 0, 2), (36, 147, 51, 3), (13, 0, 62, 3), (2, 0, 0, 1), (8, 7, 1, 3), (36, 29, 3089, 3), (13, 1, 64, 3), (0, 4294967295, 0, 1), (41, 0, 0, 1), (2, 0, 0, 1), (8, 7, 3, 3), (8, 5, 7, 3), (0, 20, 0, 2), (14, 2, 79, 3), (0, 4294967293, 0, 2), (41, 0, 0, 1), (2, 0, 0, 1), (8, 7, 3, 3), (1, 1, 0, 1), (36, 56, 6178, 3), (13, 0, 102, 3), (2, 0, 0, 1), (8, 7, 3, 3), (1, 2, 0, 1), (1, 1, 0, 1), (36, 57, 6195, 3), (13, 1, 105, 3), (0, 4294967292, 0, 2), (41, 0, 0, 1), (2, 0, 0, 1), (8, 7, 8, 3), (2, 0, 0, 1), (8, 7, 3, 3), (36, 10, 2082, 3), (2, 0, 0, 1), (8, 7, 5, 3), (36, 102, 7185, 3), (2, 0, 0, 1), (8, 7, 5, 3), (2, 0, 0, 1), (8, 7, 1, 3), (36, 30, 3089, 3), (9, 6, 0, 3), (2, 0, 0, 1), (8, 7, 5, 3), (1, 1, 0, 1), (9, 6, 1, 3), (2, 0, 0, 1), (8, 7, 5, 3), (1, 2, 0, 1), (9, 6, 2, 3), (2, 0, 0, 1), (8, 7, 5, 3), (1, 3, 0, 1), (9, 6, 3, 3), (2, 0, 0, 1), (8, 7, 5, 3), (1, 4, 0, 2), (9, 6, 8, 3), (2, 0, 0, 1), (8, 7, 5, 3), (1, 5, 0, 2), (9, 6, 9, 3), (2, 0, 0, 1), (8, 7, 3, 3), (8, 5, 7, 3), (4, 6, 0, 2), (2, 0, 0, 1), (8, 7, 3, 3), (2, 0, 0, 1), (8, 7, 5, 3), (36, 62, 6178, 3), (2, 0, 0, 1), (8, 7, 3, 3), (8, 5, 3, 3), (0, 0, 0, 1), (1, 6, 0, 2), (1, 1, 0, 1), (36, 5, 1092, 3), (2, 0, 0, 1), (8, 7, 0, 3), (0, 0, 0, 1), (9, 4, 1, 3), (1, 6, 0, 2), (41, 0, 0, 1)]
def sc_113 : List sI := [(2, 0, 0, 1), (8, 7, 3, 3), (1, 1, 0, 1), (36, 53, 6178, 3), (13, 0, 23, 3), (2, 0, 0, 1), (8, 7, 3, 3), (1, 2, 0, 1), (1, 3, 0, 1), (36, 54, 6195, 3), (13, 1, 25, 3), (0, 4294967295, 0, 1), (41, 0, 0, 1), (2, 0, 0, 1), (8, 7, 3, 3), (1, 1, 0, 1), (36, 49, 6178, 3), (5, 4, 0, 2), (2, 4, 0, 2), (1, 2, 0, 1), (36, 104, 7202, 3), (4, 5, 0, 2), (1, 5, 0, 2), (1, 3, 0, 1), (14, 1, 52, 3), (0, 4294967294, 0, 2), (41, 0, 0, 1), (1, 2, 0, 1), (0, 4, 0, 1), (14, 1, 76, 3), (2, 0, 0, 1), (8, 7, 3, 3), (1, 3, 0, 1), (2, 4, 0, 2), (8, 6, 1, 3), (36, 57, 6195, 3), (13, 1, 76, 3), (0, 4294967292, 0, 2), (41, 0, 0, 1), (2, 0, 0, 1), (8, 7, 8, 3), (2, 0, 0, 1), (8, 7, 3, 3), (36, 10, 2082, 3), (2, 4, 0, 2), (1, 2, 0, 1), (1, 3, 0, 1), (36, 105, 7219, 3), (2, 0, 0, 1), (8, 7, 3, 3), (8, 5, 3, 3), (0, 6, 0, 2), (0, 10, 0, 2), (1, 1, 0, 1), (17, 0, 0, 1), (1, 2, 0, 1), (15, 0, 0, 1), (1, 5, 0, 2), (36, 5, 1092, 3), (1, 2, 0, 1), (13, 0, 123, 3), (1, 2, 0, 1), (0, 1, 0, 1), (14, 1, 127, 3), (0, 1, 0, 1), (12, 128, 0, 3), (0, 0, 0, 1), (4, 6, 0, 2), (1, 6, 0, 2), (13, 0, 143, 3), (1, 5, 0, 2), (0, 9, 0, 2), (15, 0, 0, 1), (12, 145, 0, 3), (1, 5, 0, 2), (41, 0, 0, 1)]
def sc_114 : List sI := [(1, 1, 0, 1), (0, 0, 0, 1), (2, 0, 0, 1), (8, 7, 3, 3), (8, 5, 4, 3), (36, 147, 51, 3), (13, 1, 17, 3), (0, 4294967295, 0, 1), (41, 0, 0, 1), (2, 0, 0, 1), (8, 7, 3, 3), (8, 5, 5, 3), (4, 2, 0, 1), (1, 1, 0, 1), (1, 2, 0, 1), (14, 1, 33, 3), (0, 4294967294, 0, 2), (41, 0, 0, 1), (2, 0, 0, 1), (8, 7, 3, 3), (1, 1, 0, 1), (36, 59, 6226, 3), (13, 5, 47, 3), (0, 4294967292, 0, 2), (41, 0, 0, 1), (2, 0, 0, 1), (8, 7, 8, 3), (2, 0, 0, 1), (8, 7, 3, 3), (36, 10, 2082, 3), (2, 0, 0, 1), (8, 7, 3, 3), (1, 1, 0, 1), (9, 5, 5, 3), (2, 0, 0, 1), (8, 7, 3, 3), (8, 5, 3, 3), (0, 7, 0, 2), (0, 0, 0, 1), (1, 2, 0, 1), (36, 5, 1092, 3), (1, 2, 0, 1), (41, 0, 0, 1)]
def sc_115 : List sI := [(2, 0, 0, 1), (1, 1, 0, 1), (1, 2, 0, 1), (36, 149, 8243, 3), (13, 0, 19, 3), (1, 3, 0, 1), (0, 0, 0, 1), (0, 9, 0, 2), (36, 147, 51, 3), (13, 1, 21, 3), (0, 4294967295, 0, 1), (41, 0, 0, 1), (2, 0, 0, 1), (8, 7, 3, 3), (1, 1, 0, 1), (1, 2, 0, 1), (1, 3, 0, 1), (36, 88, 6276, 3), (4, 4, 0, 2), (1, 4, 0, 2), (13, 0, 44, 3), (1, 4, 0, 2), (36, 148, 17, 3), (41, 0, 0, 1), (2, 0, 0, 1), (8, 7, 3, 3), (1, 1, 0, 1), (1, 2, 0, 1), (36, 86, 6227, 3), (2, 0, 0, 1), (8, 7, 3, 3), (1, 2, 0, 1), (1, 1, 0, 1), (36, 86, 6227, 3), (15, 0, 0, 1), (4, 5, 0, 2), (2, 0, 0, 1), (8, 7, 8, 3), (2, 0, 0, 1), (8, 7, 3, 3), (36, 10, 2082, 3), (2, 0, 0, 1), (8, 7, 3, 3), (1, 1, 0, 1), (1, 2, 0, 1), (1, 3, 0, 1), (36, 89, 6212, 3), (1, 5, 0, 2), (0, 100, 0, 2), (15, 0, 0, 1), (41, 0, 0, 1)]
def sc_116 : List sI := [(2, 0, 0, 1), (8, 7, 3, 3), (1, 1, 0, 1), (36, 53, 6178, 3), (13, 0, 22, 3), (2, 0, 0, 1), (8, 7, 3, 3), (1, 2, 0, 1), (36, 52, 6178, 3), (13, 1, 24, 3), (0, 4294967295, 0, 1), (41, 0, 0, 1), (2, 0, 0, 1), (8, 7, 3, 3), (1, 1, 0, 1), (1, 2, 0, 1), (36, 90, 6195, 3), (4, 3, 0, 1), (1, 3, 0, 1), (13, 0, 43, 3), (1, 3, 0, 1), (36, 148, 17, 3), (41, 0, 0, 1), (2, 0, 0, 1), (8, 7, 3, 3), (1, 1, 0, 1), (1, 2, 0, 1), (36, 65, 6259, 3), (2, 0, 0, 1), (8, 7, 3, 3), (1, 1, 0, 1), (36, 66, 6178, 3), (16, 0, 0, 1), (4, 4, 0, 2), (2, 0, 0, 1), (8, 7, 8, 3), (2, 0, 0, 1), (8, 7, 3, 3), (36, 10, 2082, 3), (2, 0, 0, 1), (8, 7, 3, 3), (1, 1, 0, 1), (1, 2, 0, 1), (36, 91, 6211, 3), (1, 4, 0, 2), (41, 0, 0, 1)]
def sc_117 : List sI := [(2, 0, 0, 1), (1, 1, 0, 1), (1, 2, 0, 1), (36, 149, 8243, 3), (13, 0, 23, 3), (2, 0, 0, 1), (1, 2, 0, 1), (1, 3, 0, 1), (36, 149, 8243, 3), (13, 0, 23, 3), (1, 1, 0, 1), (1, 3, 0, 1), (14, 1, 25, 3), (0, 4294967295, 0, 1), (41, 0, 0, 1), (2, 0, 0, 1), (8, 7, 3, 3), (1, 1, 0, 1), (1, 2, 0, 1), (1, 3, 0, 1), (36, 92, 6276, 3), (4, 4, 0, 2), (1, 4, 0, 2), (13, 0, 48, 3), (1, 4, 0, 2), (36, 148, 17, 3), (41, 0, 0, 1), (2, 0, 0, 1), (8, 7, 3, 3), (1, 1, 0, 1), (1, 2, 0, 1), (1, 3, 0, 1), (36, 93, 6244, 3), (4, 5, 0, 2), (2, 0, 0, 1), (8, 7, 8, 3), (2, 0, 0, 1), (8, 7, 3, 3), (36, 10, 2082, 3), (2, 0, 0, 1), (8, 7, 3, 3), (1, 1, 0, 1), (1, 2, 0, 1), (1, 3, 0, 1), (36, 94, 6212, 3), (1, 5, 0, 2), (41, 0, 0, 1)]
def sc_118 : List sI := [(2, 0, 0, 1), (36, 150, 8225, 3), (4, 1, 0, 1), (1, 1, 0, 1), (13, 1, 12, 3), (0, 4294967294, 0, 2), (41, 0, 0, 1), (2, 0, 0, 1), (8, 7, 4, 3), (36, 69, 6193, 3), (2, 0, 0, 1), (8, 7, 3, 3), (36, 69, 6193, 3), (16, 0, 0, 1), (4, 2, 0, 1), (2, 0, 0, 1), (8, 7, 8, 3), (2, 0, 0, 1), (8, 7, 3, 3), (36, 10, 2082, 3), (2, 0, 0, 1), (8, 7, 3, 3), (2, 0, 0, 1), (8, 7, 4, 3), (36, 48, 6194, 3), (2, 0, 0, 1), (8, 7, 3, 3), (33, 0, 0, 1), (8, 5, 8, 3), (1, 1, 0, 1), (15, 0, 0, 1), (9, 5, 8, 3), (2, 0, 0, 1), (8, 7, 3, 3), (8, 5, 3, 3), (0, 5, 0, 1), (1, 1, 0, 1), (1, 2, 0, 1), (36, 5, 1092, 3), (1, 1, 0, 1), (41, 0, 0, 1)]
def sc_119 : List sI := [(1, 1, 0, 1), (0, 1, 0, 1), (0, 50, 0, 2), (36, 147, 51, 3), (13, 1, 12, 3), (0, 4294967295, 0, 1), (41, 0, 0, 1), (2, 0, 0, 1), (8, 7, 3, 3), (8, 5, 6, 3), (1, 1, 0, 1), (15, 0, 0, 1), (0, 999, 0, 3), (14, 5, 30, 3), (0, 4294967293, 0, 2), (41, 0, 0, 1), (2, 0, 0, 1), (8, 7, 8, 3), (2, 0, 0, 1), (8, 7, 3, 3), (36, 10, 2082, 3), (2, 0, 0, 1), (8, 7, 3, 3), (8, 5, 7, 3), (4, 2, 0, 1), (0, 0, 0, 1), (4, 3, 0, 1), (1, 3, 0, 1), (1, 1, 0, 1), (14, 3, 69, 3), (2, 0, 0, 1), (8, 7, 3, 3), (36, 64, 6177, 3), (7, 3, 1, 3), (12, 51, 0, 3), (1, 2, 0, 1), (2, 0, 0, 1), (8, 7, 3, 3), (8, 5, 7, 3), (16, 0, 0, 1), (41, 0, 0, 1)]
def sc_120 : List sI := [(1, 1, 0, 1), (0, 0, 0, 1), (0, 1, 0, 1), (36, 147, 51, 3), (13, 1, 11, 3), (0, 4294967295, 0, 1), (41, 0, 0, 1), (2, 0, 0, 1), (8, 7, 6, 3), (1, 1, 0, 1), (25, 0, 0, 1), (2, 0, 0, 1), (8, 7, 3, 3), (36, 48, 6194, 3), (2, 0, 0, 1), (8, 7, 7, 3), (1, 1, 0, 1), (0, 1, 0, 1), (27, 0, 0, 1), (2, 0, 0, 1), (8, 7, 3, 3), (8, 5, 7, 3), (41, 0, 0, 1)]
def sc_121 : List sI := [(1, 1, 0, 1), (0, 0, 0, 1), (0, 1, 0, 1), (36, 147, 51, 3), (13, 1, 11, 3), (0, 4294967295, 0, 1), (41, 0, 0, 1), (2, 0, 0, 1), (8, 7, 7, 3), (1, 1, 0, 1), (24, 0, 0, 1), (13, 1, 23, 3), (0, 4294967294, 0, 2), (41, 0, 0, 1), (2, 0, 0, 1), (8, 7, 8, 3), (2, 0, 0, 1), (8, 7, 3, 3), (36, 10, 2082, 3), (2, 0, 0, 1), (8, 7, 3, 3), (2, 0, 0, 1), (8, 7, 6, 3), (1, 1, 0, 1), (25, 0, 0, 1), (36, 48, 6194, 3), (2, 0, 0, 1), (8, 7, 3, 3), (8, 5, 7, 3), (41, 0, 0, 1)]
def sc_122 : List sI := [(2, 0, 0, 1), (8, 7, 8, 3), (8, 1, 2, 3), (13, 1, 12, 3), (0, 4294967295, 0, 1), (41, 0, 0, 1), (2, 0, 0, 1), (8, 7, 8, 3), (2, 0, 0, 1), (8, 7, 3, 3), (36, 11, 2082, 3), (2, 0, 0, 1), (8, 7, 8, 3), (8, 1, 2, 3), (41, 0, 0, 1)]
def sc_123 : List sI := [(1, 1, 0, 1), (46, 1, 0, 83), (2, 0, 0, 1), (8, 7, 3, 3), (8, 5, 4, 3), (41, 0, 0, 1), (2, 0, 0, 1), (8, 7, 3, 3), (8, 5, 5, 3), (41, 0, 0, 1), (2, 0, 0, 1), (8, 7, 3, 3), (8, 5, 6, 3), (41, 0, 0, 1), (2, 0, 0, 1), (8, 7, 3, 3), (8, 5, 7, 3), (41, 0, 0, 1), (2, 0, 0, 1), (8, 7, 3, 3), (36, 50, 6161, 3), (2, 0, 0, 1), (8, 7, 3, 3), (8, 5, 7, 3), (16, 0, 0, 1), (41, 0, 0, 1), (2, 0, 0, 1), (8, 7, 3, 3), (36, 69, 6193, 3), (0, 10000, 0, 3), (15, 0, 0, 1), (41, 0, 0, 1), (2, 0, 0, 1), (8, 7, 3, 3), (36, 70, 6193, 3), (41, 0, 0, 1), (2, 0, 0, 1), (8, 7, 3, 3), (36, 82, 6193, 3), (41, 0, 0, 1), (2, 0, 0, 1), (8, 7, 3, 3), (8, 5, 8, 3), (41, 0, 0, 1), (2, 0, 0, 1), (8, 7, 3, 3), (8, 5, 9, 3), (41, 0, 0, 1), (2, 0, 0, 1), (8, 7, 3, 3), (8, 5, 10, 3), (41, 0, 0, 1), (2, 0, 0, 1), (8, 7, 3, 3), (8, 5, 11, 3), (41, 0, 0, 1), (2, 0, 0, 1), (8, 7, 3, 3), (8, 5, 12, 3), (41, 0, 0, 1), (2, 0, 0, 1), (8, 7, 3, 3), (36, 51, 6161, 3), (41, 0, 0, 1), (2, 0, 0, 1), (8, 7, 3, 3), (36, 81, 6193, 3), (41, 0, 0, 1), (2, 0, 0, 1), (8, 7, 3, 3), (8, 5, 3, 3), (8, 0, 2, 3), (41, 0, 0, 1), (2, 0, 0, 1), (8, 7, 8, 3), (8, 1, 2, 3), (41, 0, 0, 1), (0, 4294967295, 0, 1), (41, 0, 0, 1)]
def sc_124 : List sI := [(2, 0, 0, 1), (8, 7, 3, 3), (1, 1, 0, 1), (36, 53, 6178, 3), (13, 1, 13, 3), (0, 4294967295, 0, 1), (41, 0, 0, 1), (2, 0, 0, 1), (8, 7, 3, 3), (1, 1, 0, 1), (36, 49, 6178, 3), (5, 3, 0, 1), (1, 2, 0, 1), (46, 23, 0, 61), (2, 3, 0, 1), (8, 6, 1, 3), (41, 0, 0, 1), (2, 3, 0, 1), (8, 6, 2, 3), (41, 0, 0, 1), (2, 3, 0, 1), (8, 6, 3, 3), (41, 0, 0, 1), (2, 3, 0, 1), (8, 6, 4, 3), (0, 9, 0, 2), (15, 0, 0, 1), (41, 0, 0, 1), (2, 3, 0, 1), (8, 6, 5, 3), (0, 9, 0, 2), (15, 0, 0, 1), (41, 0, 0, 1), (2, 3, 0, 1), (8, 6, 6, 3), (41, 0, 0, 1), (2, 3, 0, 1), (8, 6, 7, 3), (41, 0, 0, 1), (2, 3, 0, 1), (8, 6, 8, 3), (41, 0, 0, 1), (2, 3, 0, 1), (8, 6, 9, 3), (41, 0, 0, 1), (2, 0, 0, 1), (8, 7, 3, 3), (1, 1, 0, 1), (36, 66, 6178, 3), (0, 100, 0, 2), (15, 0, 0, 1), (41, 0, 0, 1), (2, 0, 0, 1), (8, 7, 3, 3), (2, 3, 0, 1), (2, 3, 0, 1), (8, 6, 1, 3), (0, 8, 0, 2), (18, 0, 0, 1), (36, 67, 6211, 3), (41, 0, 0, 1), (2, 0, 0, 1), (8, 7, 3, 3), (1, 1, 0, 1), (36, 71, 6242, 3), (41, 0, 0, 1), (0, 4294967295, 0, 1), (41, 0, 0, 1)]
def sc_125 : List sI := [(2, 0, 0, 1), (8, 7, 3, 3), (1, 1, 0, 1), (36, 53, 6178, 3), (13, 0, 15, 3), (1, 2, 0, 1), (13, 3, 17, 3), (0, 4294967295, 0, 1), (41, 0, 0, 1), (2, 0, 0, 1), (8, 7, 3, 3), (1, 1, 0, 1), (36, 49, 6178, 3), (1, 2, 0, 1), (36, 106, 7202, 3), (4, 3, 0, 1), (1, 3, 0, 1), (13, 1, 39, 3), (0, 4294967294, 0, 2), (12, 40, 0, 3), (1, 3, 0, 1), (41, 0, 0, 1)]
def sc_126 : List sI := [(2, 0, 0, 1), (8, 7, 3, 3), (1, 1, 0, 1), (36, 52, 6178, 3), (13, 0, 22, 3), (2, 0, 0, 1), (8, 7, 3, 3), (1, 1, 0, 1), (36, 55, 6194, 3), (12, 23, 0, 3), (0, 4294967295, 0, 1), (41, 0, 0, 1)]
def sc_127 : List sI := [(1, 1, 0, 1), (0, 0, 0, 1), (2, 0, 0, 1), (8, 7, 3, 3), (36, 51, 6161, 3), (0, 1, 0, 1), (16, 0, 0, 1), (36, 147, 51, 3), (13, 1, 19, 3), (0, 4294967295, 0, 1), (41, 0, 0, 1), (1, 2, 0, 1), (46, 20, 0, 32), (2, 0, 0, 1), (8, 7, 3, 3), (1, 1, 0, 1), (36, 74, 6210, 3), (41, 0, 0, 1), (2, 0, 0, 1), (8, 7, 3, 3), (1, 1, 0, 1), (36, 75, 6210, 3), (41, 0, 0, 1), (2, 0, 0, 1), (8, 7, 3, 3), (1, 1, 0, 1), (36, 76, 6210, 3), (0, 1000, 0, 3), (15, 0, 0, 1), (41, 0, 0, 1), (2, 0, 0, 1), (8, 7, 3, 3), (1, 1, 0, 1), (36, 77, 6242, 3), (41, 0, 0, 1), (0, 4294967295, 0, 1), (41, 0, 0, 1)]
def sc_128 : List sI := [(1, 1, 0, 1), (0, 1, 0, 1), (0, 9, 0, 2), (36, 147, 51, 3), (13, 1, 12, 3), (0, 4294967295, 0, 1), (41, 0, 0, 1), (1, 2, 0, 1), (46, 13, 0, 27), (2, 0, 0, 1), (8, 7, 3, 3), (1, 1, 0, 1), (36, 78, 6210, 3), (41, 0, 0, 1), (2, 0, 0, 1), (8, 7, 3, 3), (1, 1, 0, 1), (36, 79, 6210, 3), (41, 0, 0, 1), (2, 0, 0, 1), (8, 7, 3, 3), (1, 1, 0, 1), (36, 80, 6210, 3), (0, 1000, 0, 3), (15, 0, 0, 1), (41, 0, 0, 1), (0, 4294967295, 0, 1), (41, 0, 0, 1)]
def sc_129 : List sI := [(1, 1, 0, 1), (13, 3, 8, 3), (0, 4294967295, 0, 1), (12, 16, 0, 3), (2, 0, 0, 1), (8, 7, 3, 3), (1, 1, 0, 1), (36, 72, 6194, 3), (41, 0, 0, 1)]
def sc_130 : List sI := [(2, 0, 0, 1), (1, 1, 0, 1), (1, 2, 0, 1), (36, 149, 8243, 3), (13, 0, 19, 3), (1, 3, 0, 1), (0, 0, 0, 1), (0, 9, 0, 2), (36, 147, 51, 3), (13, 1, 21, 3), (0, 4294967295, 0, 1), (41, 0, 0, 1), (2, 0, 0, 1), (8, 7, 3, 3), (1, 1, 0, 1), (1, 2, 0, 1), (1, 3, 0, 1), (36, 88, 6276, 3), (41, 0, 0, 1)]
def sc_131 : List sI := [(2, 0, 0, 1), (8, 7, 3, 3), (1, 1, 0, 1), (36, 53, 6178, 3), (13, 0, 22, 3), (2, 0, 0, 1), (8, 7, 3, 3), (1, 2, 0, 1), (36, 52, 6178, 3), (13, 1, 24, 3), (0, 4294967295, 0, 1), (41, 0, 0, 1), (2, 0, 0, 1), (8, 7, 3, 3), (1, 1, 0, 1), (1, 2, 0, 1), (36, 90, 6195, 3), (41, 0, 0, 1)]
def sc_132 : List sI := [(2, 0, 0, 1), (8, 7, 3, 3), (1, 1, 0, 1), (36, 53, 6178, 3), (13, 0, 22, 3), (2, 0, 0, 1), (8, 7, 3, 3), (1, 2, 0, 1), (36, 52, 6178, 3), (13, 1, 24, 3), (0, 4294967295, 0, 1), (41, 0, 0, 1), (2, 0, 0, 1), (8, 7, 3, 3), (1, 1, 0, 1), (1, 2, 0, 1), (36, 65, 6259, 3), (0, 100, 0, 2), (15, 0, 0, 1), (41, 0, 0, 1)]
def sc_133 : List sI := [(2, 0, 0, 1), (1, 1, 0, 1), (1, 2, 0, 1), (36, 149, 8243, 3), (13, 1, 11, 3), (0, 4294967295, 0, 1), (41, 0, 0, 1), (1, 3, 0, 1), (46, 12, 0, 28), (2, 0, 0, 1), (8, 7, 3, 3), (1, 1, 0, 1), (1, 2, 0, 1), (36, 86, 6227, 3), (0, 100, 0, 2), (15, 0, 0, 1), (41, 0, 0, 1), (2, 0, 0, 1), (8, 7, 3, 3), (1, 2, 0, 1), (1, 1, 0, 1), (36, 86, 6227, 3), (0, 100, 0, 2), (15, 0, 0, 1), (41, 0, 0, 1), (2, 0, 0, 1), (8, 7, 3, 3), (1, 1, 0, 1), (1, 2, 0, 1), (36, 87, 6211, 3), (0, 1000, 0, 3), (15, 0, 0, 1), (41, 0, 0, 1), (0, 4294967295, 0, 1), (41, 0, 0, 1)]
def sc_134 : List sI := [(2, 0, 0, 1), (1, 1, 0, 1), (1, 2, 0, 1), (36, 149, 8243, 3), (13, 1, 11, 3), (0, 4294967295, 0, 1), (41, 0, 0, 1), (0, 0, 0, 1), (4, 3, 0, 1), (1, 3, 0, 1), (0, 9, 0, 2), (14, 4, 40, 3), (2, 0, 0, 1), (8, 7, 3, 3), (1, 1, 0, 1), (1, 2, 0, 1), (1, 3, 0, 1), (36, 88, 6276, 3), (13, 1, 34, 3), (1, 3, 0, 1), (41, 0, 0, 1), (7, 3, 1, 3), (12, 13, 0, 3), (0, 4294967294, 0, 2), (41, 0, 0, 1)]
def sc_135 : List sI := [(2, 0, 0, 1), (8, 7, 3, 3), (1, 1, 0, 1), (36, 53, 6178, 3), (13, 0, 22, 3), (2, 0, 0, 1), (8, 7, 3, 3), (1, 1, 0, 1), (36, 96, 6242, 3), (12, 23, 0, 3), (0, 4294967295, 0, 1), (41, 0, 0, 1)]
def sc_136 : List sI := [(2, 0, 0, 1), (8, 7, 3, 3), (1, 1, 0, 1), (36, 53, 6178, 3), (13, 0, 22, 3), (2, 0, 0, 1), (8, 7, 3, 3), (1, 1, 0, 1), (36, 97, 6242, 3), (12, 23, 0, 3), (0, 4294967295, 0, 1), (41, 0, 0, 1)]
def sc_137 : List sI := [(2, 0, 0, 1), (8, 7, 3, 3), (36, 95, 6225, 3), (41, 0, 0, 1)]
def sc_138 : List sI := [(1, 1, 0, 1), (0, 0, 0, 1), (0, 2, 0, 1), (36, 147, 51, 3), (13, 1, 11, 3), (0, 4294967295, 0, 1), (41, 0, 0, 1), (2, 0, 0, 1), (36, 150, 8225, 3), (4, 2, 0, 1), (1, 1, 0, 1), (50, 17, 0, 27), (1, 2, 0, 1), (41, 0, 0, 1), (2, 0, 0, 1), (8, 7, 4, 3), (36, 69, 6193, 3), (0, 10000, 0, 3), (15, 0, 0, 1), (41, 0, 0, 1), (2, 0, 0, 1), (8, 7, 4, 3), (36, 70, 6193, 3), (41, 0, 0, 1)]
def sc_139 : List sI := [(1, 1, 0, 1), (0, 0, 0, 1), (2, 0, 0, 1), (8, 7, 3, 3), (8, 5, 4, 3), (36, 147, 51, 3), (13, 0, 26, 3), (2, 0, 0, 1), (8, 7, 3, 3), (1, 1, 0, 1), (36, 59, 6226, 3), (12, 27, 0, 3), (0, 4294967295, 0, 1), (41, 0, 0, 1)]
def sc_140 : List sI := [(1, 1, 0, 1), (13, 2, 13, 3), (1, 2, 0, 1), (0, 0, 0, 1), (0, 2, 0, 1), (36, 147, 51, 3), (13, 1, 15, 3), (0, 4294967295, 0, 1), (41, 0, 0, 1), (2, 0, 0, 1), (8, 7, 3, 3), (8, 5, 3, 3), (1, 1, 0, 1), (1, 2, 0, 1), (36, 6, 1091, 3), (41, 0, 0, 1)]
def sc_141 : List sI := [(2, 0, 0, 1), (8, 7, 3, 3), (36, 50, 6161, 3), (4, 1, 0, 1), (1, 1, 0, 1), (13, 5, 26, 3), (2, 0, 0, 1), (8, 7, 3, 3), (8, 5, 7, 3), (47, 19, 1, 1), (1, 1, 0, 1), (47, 21, 1, 1), (47, 22, 2, 1), (12, 27, 0, 3), (47, 26, 0, 1), (44, 0, 0, 1)]
def sc_142 : List sI := [(2, 0, 0, 1), (8, 7, 3, 3), (8, 5, 7, 3), (13, 5, 30, 3), (2, 0, 0, 1), (8, 7, 3, 3), (36, 69, 6193, 3), (47, 17, 1, 1), (2, 0, 0, 1), (8, 7, 3, 3), (8, 5, 7, 3), (47, 25, 1, 1), (47, 26, 2, 1), (12, 31, 0, 3), (47, 30, 0, 1), (45, 0, 0, 1)]
def sc_143 : List sI := [(2, 0, 0, 1), (8, 7, 3, 3), (8, 5, 4, 3), (0, 7, 0, 2), (17, 0, 0, 1), (41, 0, 0, 1)]
def sc_144 : List sI := [(1, 1, 0, 1), (13, 3, 6, 3), (0, 4294967295, 0, 1), (41, 0, 0, 1), (1, 1, 0, 1), (2, 0, 0, 1), (36, 143, 8209, 3), (14, 3, 32, 3), (2, 0, 0, 1), (8, 7, 3, 3), (1, 1, 0, 1), (0, 7, 0, 2), (18, 0, 0, 1), (1, 1, 0, 1), (0, 7, 0, 2), (19, 0, 0, 1), (36, 99, 6195, 3), (12, 34, 0, 3), (0, 4294967294, 0, 2), (41, 0, 0, 1)]
def sc_145 : List sI := [(2, 0, 0, 1), (8, 7, 2, 3), (2, 0, 0, 1), (8, 7, 3, 3), (0, 4294967294, 0, 2), (36, 34, 4163, 3), (2, 0, 0, 1), (8, 7, 2, 3), (8, 3, 0, 3), (41, 0, 0, 1)]
def sc_146 : List sI := [(1, 1, 0, 1), (13, 3, 6, 3), (0, 4294967295, 0, 1), (41, 0, 0, 1), (2, 0, 0, 1), (8, 7, 2, 3), (2, 0, 0, 1), (8, 7, 3, 3), (1, 1, 0, 1), (36, 34, 4163, 3), (2, 0, 0, 1), (8, 7, 2, 3), (8, 3, 2, 3), (41, 0, 0, 1)]
def sc_147 : List sI := [(1, 0, 0, 1), (1, 1, 0, 1), (14, 2, 14, 3), (1, 0, 0, 1), (1, 2, 0, 1), (14, 4, 14, 3), (0, 1, 0, 1), (12, 15, 0, 3), (0, 0, 0, 1), (42, 0, 0, 1)]
def sc_148 : List sI := [(0, 4294967286, 0, 2), (1, 0, 0, 1), (16, 0, 0, 1), (41, 0, 0, 1)]
def sc_149 : List sI := [(2, 0, 0, 1), (8, 7, 3, 3), (1, 1, 0, 1), (36, 53, 6178, 3), (13, 0, 31, 3), (2, 0, 0, 1), (8, 7, 3, 3), (1, 2, 0, 1), (36, 53, 6178, 3), (13, 0, 31, 3), (1, 1, 0, 1), (1, 2, 0, 1), (14, 0, 31, 3), (0, 1, 0, 1), (12, 32, 0, 3), (0, 0, 0, 1), (42, 0, 0, 1)]
def sc_150 : List sI := [(2, 0, 0, 1), (8, 7, 4, 3), (2, 0, 0, 1), (8, 7, 3, 3), (36, 48, 6194, 3), (0, 0, 0, 1), (4, 1, 0, 1), (1, 1, 0, 1), (0, 99, 0, 2), (14, 3, 37, 3), (2, 0, 0, 1), (8, 7, 4, 3), (36, 98, 6257, 3), (13, 1, 31, 3), (1, 1, 0, 1), (41, 0, 0, 1), (7, 1, 1, 3), (12, 13, 0, 3), (0, 99, 0, 2), (41, 0, 0, 1)]
def sc_151 : List sI := [(2, 0, 0, 1), (37, 0, 0, 3), (2, 0, 0, 1), (0, 330, 0, 3), (31, 0, 0, 2), (11, 8, 0, 3), (2, 0, 0, 1), (0, 330, 0, 3), (31, 0, 0, 2), (11, 8, 1, 3), (2, 0, 0, 1), (0, 330, 0, 3), (31, 0, 0, 2), (11, 8, 2, 3), (2, 0, 0, 1), (0, 2640, 0, 3), (31, 0, 0, 2), (11, 8, 3, 3), (2, 0, 0, 1), (0, 660, 0, 3), (31, 0, 0, 2), (11, 8, 4, 3), (2, 0, 0, 1), (0, 2, 0, 1), (31, 1, 0, 2), (11, 8, 5, 3), (2, 0, 0, 1), (0, 1000, 0, 3), (31, 0, 0, 2), (11, 8, 7, 3), (2, 0, 0, 1), (0, 4294967294, 0, 2), (9, 8, 9, 3), (2, 0, 0, 1), (0, 1700, 0, 3), (31, 0, 0, 2), (11, 8, 16, 3), (2, 0, 0, 1), (8, 8, 0, 3), (0, 0, 0, 1), (0, 4, 0, 1), (26, 0, 0, 1), (2, 0, 0, 1), (8, 8, 0, 3), (0, 1, 0, 1), (0, 1, 0, 1), (26, 0, 0, 1), (40, 0, 0, 1)]
def sc_152 : List sI := [(1, 1, 0, 1), (1, 0, 0, 1), (14, 4, 14, 3), (1, 0, 0, 1), (1, 2, 0, 1), (14, 4, 14, 3), (0, 1, 0, 1), (12, 15, 0, 3), (0, 0, 0, 1), (42, 0, 0, 1)]
def sc_153 : List sI := [(0, 0, 0, 1), (4, 4, 0, 2), (1, 4, 0, 2), (0, 330, 0, 3), (14, 3, 29, 3), (2, 2, 0, 1), (1, 3, 0, 1), (1, 4, 0, 2), (15, 0, 0, 1), (2, 0, 0, 1), (1, 1, 0, 1), (1, 4, 0, 2), (15, 0, 0, 1), (23, 0, 0, 1), (26, 0, 0, 1), (7, 4, 1, 3), (12, 3, 0, 3), (40, 0, 0, 1)]
def sc_154 : List sI := [(2, 0, 0, 1), (8, 8, 0, 3), (0, 0, 0, 1), (2, 0, 0, 1), (8, 8, 2, 3), (0, 0, 0, 1), (36, 153, 84, 3), (40, 0, 0, 1)]
def sc_155 : List sI := [(0, 9, 0, 2), (0, 10, 0, 2), (1, 0, 0, 1), (17, 0, 0, 1), (15, 0, 0, 1), (1, 1, 0, 1), (15, 0, 0, 1), (41, 0, 0, 1)]
def sc_156 : List sI := [(1, 1, 0, 1), (0, 0, 0, 1), (2, 0, 0, 1), (8, 8, 0, 3), (0, 3, 0, 1), (23, 0, 0, 1), (0, 1, 0, 1), (16, 0, 0, 1), (36, 152, 51, 3), (42, 0, 0, 1)]
def sc_157 : List sI := [(1, 1, 0, 1), (0, 0, 0, 1), (0, 4, 0, 1), (2, 0, 0, 1), (8, 8, 0, 3), (0, 0, 0, 1), (23, 0, 0, 1), (17, 0, 0, 1), (0, 1, 0, 1), (16, 0, 0, 1), (36, 152, 51, 3), (42, 0, 0, 1)]
def sc_158 : List sI := [(2, 0, 0, 1), (1, 1, 0, 1), (36, 156, 9250, 3), (13, 0, 25, 3), (2, 0, 0, 1), (1, 2, 0, 1), (36, 156, 9250, 3), (13, 0, 25, 3), (1, 1, 0, 1), (1, 2, 0, 1), (14, 0, 25, 3), (0, 1, 0, 1), (12, 26, 0, 3), (0, 0, 0, 1), (42, 0, 0, 1)]
def sc_159 : List sI := [(1, 0, 0, 1), (0, 0, 0, 1), (0, 9, 0, 2), (36, 152, 51, 3), (42, 0, 0, 1)]
def sc_160 : List sI := [(1, 0, 0, 1), (0, 4, 0, 1), (18, 0, 0, 1), (41, 0, 0, 1)]
def sc_161 : List sI := [(1, 0, 0, 1), (0, 8, 0, 2), (18, 0, 0, 1), (41, 0, 0, 1)]
def sc_162 : List sI := [(1, 0, 0, 1), (0, 4, 0, 1), (19, 0, 0, 1), (13, 0, 13, 3), (1, 0, 0, 1), (0, 4, 0, 1), (19, 0, 0, 1), (0, 3, 0, 1), (14, 1, 17, 3), (0, 1, 0, 1), (12, 18, 0, 3), (0, 0, 0, 1), (42, 0, 0, 1)]
def sc_163 : List sI := [(1, 0, 0, 1), (0, 2, 0, 1), (19, 0, 0, 1), (0, 1, 0, 1), (14, 1, 11, 3), (0, 1, 0, 1), (12, 12, 0, 3), (0, 0, 0, 1), (42, 0, 0, 1)]
def sc_164 : List sI := [(2, 0, 0, 1), (0, 0, 0, 1), (23, 0, 0, 1), (0, 1, 0, 1), (15, 0, 0, 1), (0, 2, 0, 1), (18, 0, 0, 1), (41, 0, 0, 1)]
def sc_165 : List sI := [(0, 0, 0, 1), (4, 2, 0, 1), (1, 2, 0, 1), (2, 0, 0, 1), (0, 3, 0, 1), (23, 0, 0, 1), (14, 3, 28, 3), (2, 0, 0, 1), (1, 2, 0, 1), (0, 0, 0, 1), (36, 155, 34, 3), (23, 0, 0, 1), (1, 1, 0, 1), (14, 1, 22, 3), (1, 2, 0, 1), (41, 0, 0, 1), (7, 2, 1, 3), (12, 2, 0, 3), (0, 4294967294, 0, 2), (41, 0, 0, 1)]
def sc_166 : List sI := [(1, 0, 0, 1), (0, 1, 0, 1), (14, 0, 13, 3), (1, 1, 0, 1), (36, 160, 17, 3), (1, 2, 0, 1), (14, 2, 17, 3), (0, 1, 0, 1), (12, 18, 0, 3), (0, 0, 0, 1), (42, 0, 0, 1)]
def sc_167 : List sI := [(2, 0, 0, 1), (1, 1, 0, 1), (0, 1, 0, 1), (36, 155, 34, 3), (23, 0, 0, 1), (1, 2, 0, 1), (2, 0, 0, 1), (0, 1, 0, 1), (23, 0, 0, 1), (36, 166, 51, 3), (42, 0, 0, 1)]
def sc_168 : List sI := [(0, 0, 0, 1), (4, 3, 0, 1), (2, 0, 0, 1), (1, 1, 0, 1), (0, 2, 0, 1), (36, 155, 34, 3), (23, 0, 0, 1), (4, 4, 0, 2), (0, 0, 0, 1), (4, 5, 0, 2), (1, 5, 0, 2), (2, 0, 0, 1), (0, 3, 0, 1), (23, 0, 0, 1), (14, 3, 70, 3), (1, 5, 0, 2), (1, 1, 0, 1), (14, 0, 64, 3), (1, 4, 0, 2), (13, 5, 64, 3), (2, 0, 0, 1), (1, 5, 0, 2), (0, 2, 0, 1), (36, 155, 34, 3), (23, 0, 0, 1), (1, 4, 0, 2), (14, 1, 64, 3), (2, 0, 0, 1), (1, 5, 0, 2), (0, 0, 0, 1), (36, 155, 34, 3), (23, 0, 0, 1), (36, 161, 17, 3), (1, 2, 0, 1), (14, 1, 64, 3), (7, 3, 1, 3), (7, 5, 1, 3), (12, 14, 0, 3), (1, 3, 0, 1), (41, 0, 0, 1)]
def sc_169 : List sI := [(0, 4, 0, 1), (2, 0, 0, 1), (1, 1, 0, 1), (1, 2, 0, 1), (36, 161, 17, 3), (36, 168, 99, 3), (17, 0, 0, 1), (4, 3, 0, 1), (1, 2, 0, 1), (36, 160, 17, 3), (2, 0, 0, 1), (1, 1, 0, 1), (0, 5, 0, 1), (36, 155, 34, 3), (23, 0, 0, 1), (16, 0, 0, 1), (4, 4, 0, 2), (1, 2, 0, 1), (36, 162, 17, 3), (13, 0, 43, 3), (1, 3, 0, 1), (2, 0, 0, 1), (1, 1, 0, 1), (0, 3, 0, 1), (36, 155, 34, 3), (23, 0, 0, 1), (15, 0, 0, 1), (4, 3, 0, 1), (1, 2, 0, 1), (36, 160, 17, 3), (36, 163, 17, 3), (13, 0, 63, 3), (1, 3, 0, 1), (2, 0, 0, 1), (1, 1, 0, 1), (0, 4, 0, 1), (36, 155, 34, 3), (23, 0, 0, 1), (15, 0, 0, 1), (4, 3, 0, 1), (1, 3, 0, 1), (2, 0, 0, 1), (1, 1, 0, 1), (0, 6, 0, 2), (36, 155, 34, 3), (23, 0, 0, 1), (1, 4, 0, 2), (13, 3, 83, 3), (1, 4, 0, 2), (51, 0, 0, 1), (12, 85, 0, 3), (1, 4, 0, 2), (17, 0, 0, 1), (16, 0, 0, 1), (41, 0, 0, 1)]
def sc_170 : List sI := [(2, 0, 0, 1), (1, 1, 0, 1), (2, 0, 0, 1), (1, 1, 0, 1), (0, 0, 0, 1), (36, 155, 34, 3), (23, 0, 0, 1), (36, 169, 83, 3), (41, 0, 0, 1)]
def sc_171 : List sI := [(0, 0, 0, 1), (4, 1, 0, 1), (0, 0, 0, 1), (4, 2, 0, 1), (1, 2, 0, 1), (2, 0, 0, 1), (0, 3, 0, 1), (23, 0, 0, 1), (14, 3, 25, 3), (1, 1, 0, 1), (2, 0, 0, 1), (1, 2, 0, 1), (36, 170, 34, 3), (15, 0, 0, 1), (4, 1, 0, 1), (7, 2, 1, 3), (12, 4, 0, 3), (1, 1, 0, 1), (41, 0, 0, 1)]
def sc_172 : List sI := [(0, 0, 0, 1), (4, 1, 0, 1), (0, 0, 0, 1), (4, 2, 0, 1), (1, 2, 0, 1), (2, 0, 0, 1), (0, 3, 0, 1), (23, 0, 0, 1), (14, 3, 28, 3), (2, 0, 0, 1), (1, 2, 0, 1), (36, 170, 34, 3), (13, 3, 22, 3), (7, 1, 1, 3), (7, 2, 1, 3), (12, 4, 0, 3), (1, 1, 0, 1), (41, 0, 0, 1)]
def sc_173 : List sI := [(2, 0, 0, 1), (1, 1, 0, 1), (0, 0, 0, 1), (36, 155, 34, 3), (23, 0, 0, 1), (4, 3, 0, 1), (2, 0, 0, 1), (1, 1, 0, 1), (0, 0, 0, 1), (36, 155, 34, 3), (2, 0, 0, 1), (1, 2, 0, 1), (0, 0, 0, 1), (36, 155, 34, 3), (23, 0, 0, 1), (26, 0, 0, 1), (2, 0, 0, 1), (1, 2, 0, 1), (0, 0, 0, 1), (36, 155, 34, 3), (1, 3, 0, 1), (26, 0, 0, 1), (40, 0, 0, 1)]
def sc_174 : List sI := [(2, 0, 0, 1), (1, 1, 0, 1), (0, 0, 0, 1), (36, 155, 34, 3), (23, 0, 0, 1), (4, 4, 0, 2), (2, 0, 0, 1), (1, 1, 0, 1), (0, 0, 0, 1), (36, 155, 34, 3), (2, 0, 0, 1), (1, 2, 0, 1), (0, 0, 0, 1), (36, 155, 34, 3), (23, 0, 0, 1), (26, 0, 0, 1), (2, 0, 0, 1), (1, 2, 0, 1), (0, 0, 0, 1), (36, 155, 34, 3), (2, 0, 0, 1), (1, 3, 0, 1), (0, 0, 0, 1), (36, 155, 34, 3), (23, 0, 0, 1), (26, 0, 0, 1), (2, 0, 0, 1), (1, 3, 0, 1), (0, 0, 0, 1), (36, 155, 34, 3), (1, 4, 0, 2), (26, 0, 0, 1), (40, 0, 0, 1)]
def sc_175 : List sI := [(2, 0, 0, 1), (1, 3, 0, 1), (36, 170, 34, 3), (4, 4, 0, 2), (2, 0, 0, 1), (1, 1, 0, 1), (1, 2, 0, 1), (36, 173, 67, 3), (2, 0, 0, 1), (1, 3, 0, 1), (36, 170, 34, 3), (4, 5, 0, 2), (2, 0, 0, 1), (1, 1, 0, 1), (1, 2, 0, 1), (36, 173, 67, 3), (1, 5, 0, 2), (1, 4, 0, 2), (16, 0, 0, 1), (41, 0, 0, 1)]
def sc_176 : List sI := [(2, 0, 0, 1), (1, 1, 0, 1), (2, 0, 0, 1), (1, 2, 0, 1), (0, 0, 0, 1), (36, 155, 34, 3), (23, 0, 0, 1), (36, 167, 51, 3), (13, 0, 30, 3), (2, 0, 0, 1), (1, 2, 0, 1), (2, 0, 0, 1), (1, 1, 0, 1), (0, 0, 0, 1), (36, 155, 34, 3), (23, 0, 0, 1), (36, 167, 51, 3), (13, 1, 32, 3), (0, 1, 0, 1), (41, 0, 0, 1), (2, 0, 0, 1), (1, 1, 0, 1), (0, 7, 0, 2), (36, 155, 34, 3), (23, 0, 0, 1), (1, 3, 0, 1), (14, 3, 46, 3), (0, 2, 0, 1), (41, 0, 0, 1), (2, 0, 0, 1), (1, 1, 0, 1), (1, 2, 0, 1), (1, 1, 0, 1), (36, 175, 100, 3), (1, 3, 0, 1), (14, 3, 59, 3), (0, 3, 0, 1), (41, 0, 0, 1), (2, 0, 0, 1), (1, 1, 0, 1), (1, 2, 0, 1), (1, 2, 0, 1), (36, 175, 100, 3), (1, 3, 0, 1), (51, 0, 0, 1), (14, 3, 75, 3), (0, 4, 0, 1), (12, 76, 0, 3), (0, 0, 0, 1), (41, 0, 0, 1)]
def sc_177 : List sI := [(2, 0, 0, 1), (1, 2, 0, 1), (36, 165, 50, 3), (13, 2, 10, 3), (0, 5, 0, 1), (41, 0, 0, 1), (2, 0, 0, 1), (1, 1, 0, 1), (1, 2, 0, 1), (36, 167, 51, 3), (13, 1, 21, 3), (0, 1, 0, 1), (41, 0, 0, 1), (2, 0, 0, 1), (1, 1, 0, 1), (1, 2, 0, 1), (36, 169, 83, 3), (2, 0, 0, 1), (1, 1, 0, 1), (36, 170, 34, 3), (14, 3, 40, 3), (0, 6, 0, 2), (12, 41, 0, 3), (0, 0, 0, 1), (41, 0, 0, 1)]
def sc_178 : List sI := [(2, 0, 0, 1), (1, 4, 0, 2), (36, 170, 34, 3), (4, 5, 0, 2), (2, 0, 0, 1), (1, 1, 0, 1), (1, 2, 0, 1), (1, 3, 0, 1), (36, 174, 84, 3), (2, 0, 0, 1), (1, 4, 0, 2), (36, 170, 34, 3), (4, 6, 0, 2), (2, 0, 0, 1), (1, 3, 0, 1), (1, 2, 0, 1), (1, 1, 0, 1), (36, 174, 84, 3), (1, 6, 0, 2), (1, 5, 0, 2), (16, 0, 0, 1), (41, 0, 0, 1)]
def sc_179 : List sI := [(2, 0, 0, 1), (1, 1, 0, 1), (2, 0, 0, 1), (1, 2, 0, 1), (0, 0, 0, 1), (36, 155, 34, 3), (23, 0, 0, 1), (36, 167, 51, 3), (13, 0, 45, 3), (2, 0, 0, 1), (1, 2, 0, 1), (2, 0, 0, 1), (1, 3, 0, 1), (0, 0, 0, 1), (36, 155, 34, 3), (23, 0, 0, 1), (36, 167, 51, 3), (13, 0, 45, 3), (2, 0, 0, 1), (1, 3, 0, 1), (2, 0, 0, 1), (1, 1, 0, 1), (0, 0, 0, 1), (36, 155, 34, 3), (23, 0, 0, 1), (36, 167, 51, 3), (13, 1, 47, 3), (0, 1, 0, 1), (41, 0, 0, 1), (2, 0, 0, 1), (1, 1, 0, 1), (1, 2, 0, 1), (1, 3, 0, 1), (1, 1, 0, 1), (36, 178, 117, 3), (13, 3, 61, 3), (0, 6, 0, 2), (41, 0, 0, 1), (2, 0, 0, 1), (1, 1, 0, 1), (1, 2, 0, 1), (1, 3, 0, 1), (1, 2, 0, 1), (36, 178, 117, 3), (13, 3, 75, 3), (0, 6, 0, 2), (41, 0, 0, 1), (2, 0, 0, 1), (1, 1, 0, 1), (1, 2, 0, 1), (1, 3, 0, 1), (1, 3, 0, 1), (36, 178, 117, 3), (13, 3, 91, 3), (0, 6, 0, 2), (12, 92, 0, 3), (0, 0, 0, 1), (41, 0, 0, 1)]
def sc_180 : List sI := [(2, 0, 0, 1), (1, 1, 0, 1), (1, 2, 0, 1), (1, 3, 0, 1), (1, 1, 0, 1), (36, 178, 117, 3), (2, 0, 0, 1), (1, 1, 0, 1), (1, 2, 0, 1), (1, 3, 0, 1), (1, 2, 0, 1), (36, 178, 117, 3), (15, 0, 0, 1), (2, 0, 0, 1), (1, 1, 0, 1), (1, 2, 0, 1), (1, 3, 0, 1), (1, 3, 0, 1), (36, 178, 117, 3), (15, 0, 0, 1), (41, 0, 0, 1)]
def sc_181 : List sI := [(2, 0, 0, 1), (36, 171, 49, 3), (4, 3, 0, 1), (2, 0, 0, 1), (1, 1, 0, 1), (1, 2, 0, 1), (36, 173, 67, 3), (2, 0, 0, 1), (36, 171, 49, 3), (4, 4, 0, 2), (2, 0, 0, 1), (1, 1, 0, 1), (1, 2, 0, 1), (36, 173, 67, 3), (1, 4, 0, 2), (1, 3, 0, 1), (16, 0, 0, 1), (41, 0, 0, 1)]
def sc_182 : List sI := [(0, 4294967294, 0, 2), (4, 1, 0, 1), (0, 0, 0, 1), (4, 2, 0, 1), (0, 0, 0, 1), (4, 3, 0, 1), (1, 3, 0, 1), (2, 0, 0, 1), (0, 3, 0, 1), (23, 0, 0, 1), (14, 3, 86, 3), (0, 0, 0, 1), (4, 4, 0, 2), (1, 4, 0, 2), (2, 0, 0, 1), (0, 3, 0, 1), (23, 0, 0, 1), (14, 3, 80, 3), (1, 3, 0, 1), (1, 4, 0, 2), (14, 0, 74, 3), (2, 0, 0, 1), (1, 3, 0, 1), (1, 4, 0, 2), (0, 0, 0, 1), (36, 176, 68, 3), (13, 5, 45, 3), (12, 74, 0, 3), (2, 0, 0, 1), (1, 3, 0, 1), (1, 4, 0, 2), (36, 181, 83, 3), (4, 5, 0, 2), (1, 5, 0, 2), (1, 2, 0, 1), (14, 4, 63, 3), (12, 74, 0, 3), (0, 100, 0, 2), (1, 3, 0, 1), (17, 0, 0, 1), (1, 4, 0, 2), (15, 0, 0, 1), (4, 1, 0, 1), (1, 5, 0, 2), (4, 2, 0, 1), (7, 4, 1, 3), (12, 17, 0, 3), (7, 3, 1, 3), (12, 7, 0, 3), (1, 1, 0, 1), (41, 0, 0, 1)]
def sc_183 : List sI := [(0, 0, 0, 1), (4, 1, 0, 1), (2, 0, 0, 1), (36, 182, 97, 3), (4, 2, 0, 1), (1, 2, 0, 1), (13, 2, 40, 3), (1, 1, 0, 1), (0, 99, 0, 2), (14, 3, 40, 3), (2, 0, 0, 1), (1, 2, 0, 1), (0, 100, 0, 2), (18, 0, 0, 1), (1, 2, 0, 1), (0, 100, 0, 2), (19, 0, 0, 1), (36, 173, 67, 3), (7, 1, 1, 3), (2, 0, 0, 1), (36, 182, 97, 3), (4, 2, 0, 1), (12, 7, 0, 3), (1, 1, 0, 1), (41, 0, 0, 1)]
def sc_184 : List sI := [(2, 0, 0, 1), (8, 8, 8, 3), (0, 20, 0, 2), (15, 0, 0, 1), (0, 1000, 0, 3), (14, 5, 15, 3), (0, 4294967295, 0, 1), (41, 0, 0, 1), (0, 0, 0, 1), (4, 6, 0, 2), (1, 6, 0, 2), (0, 20, 0, 2), (14, 3, 115, 3), (1, 6, 0, 2), (0, 4, 0, 1), (14, 3, 35, 3), (1, 1, 0, 1), (12, 71, 0, 3), (1, 6, 0, 2), (0, 8, 0, 2), (14, 3, 46, 3), (1, 2, 0, 1), (12, 71, 0, 3), (1, 6, 0, 2), (0, 12, 0, 2), (14, 3, 57, 3), (1, 3, 0, 1), (12, 71, 0, 3), (1, 6, 0, 2), (0, 16, 0, 2), (14, 3, 69, 3), (1, 4, 0, 2), (12, 71, 0, 3), (1, 5, 0, 2), (4, 7, 0, 2), (2, 0, 0, 1), (8, 8, 7, 3), (2, 0, 0, 1), (8, 8, 8, 3), (1, 7, 0, 2), (0, 24, 0, 2), (0, 8, 0, 2), (1, 6, 0, 2), (0, 4, 0, 1), (19, 0, 0, 1), (17, 0, 0, 1), (16, 0, 0, 1), (21, 0, 0, 1), (0, 255, 0, 3), (20, 0, 0, 1), (26, 0, 0, 1), (2, 0, 0, 1), (33, 0, 0, 1), (8, 8, 8, 3), (0, 1, 0, 1), (15, 0, 0, 1), (9, 8, 8, 3), (7, 6, 1, 3), (12, 18, 0, 3), (2, 0, 0, 1), (8, 8, 8, 3), (41, 0, 0, 1)]
def sc_185 : List sI := [(1, 1, 0, 1), (13, 2, 12, 3), (1, 1, 0, 1), (2, 0, 0, 1), (8, 8, 8, 3), (14, 5, 14, 3), (0, 4294967295, 0, 1), (41, 0, 0, 1), (2, 0, 0, 1), (33, 0, 0, 1), (8, 8, 8, 3), (1, 1, 0, 1), (16, 0, 0, 1), (9, 8, 8, 3), (2, 0, 0, 1), (8, 8, 8, 3), (41, 0, 0, 1)]
def sc_186 : List sI := [(2, 0, 0, 1), (8, 8, 9, 3), (41, 0, 0, 1)]
def sc_187 : List sI := [(1, 1, 0, 1), (2, 0, 0, 1), (8, 8, 8, 3), (14, 3, 34, 3), (2, 0, 0, 1), (8, 8, 7, 3), (1, 1, 0, 1), (23, 0, 0, 1), (0, 97, 0, 2), (14, 2, 34, 3), (2, 0, 0, 1), (8, 8, 7, 3), (1, 1, 0, 1), (23, 0, 0, 1), (0, 122, 0, 2), (14, 4, 34, 3), (0, 1, 0, 1), (12, 35, 0, 3), (0, 0, 0, 1), (42, 0, 0, 1)]
def sc_188 : List sI := [(1, 1, 0, 1), (2, 0, 0, 1), (8, 8, 8, 3), (14, 3, 34, 3), (2, 0, 0, 1), (8, 8, 7, 3), (1, 1, 0, 1), (23, 0, 0, 1), (0, 48, 0, 2), (14, 2, 34, 3), (2, 0, 0, 1), (8, 8, 7, 3), (1, 1, 0, 1), (23, 0, 0, 1), (0, 57, 0, 2), (14, 4, 34, 3), (0, 1, 0, 1), (12, 35, 0, 3), (0, 0, 0, 1), (42, 0, 0, 1)]
def sc_189 : List sI := [(2, 0, 0, 1), (8, 8, 11, 3), (2, 0, 0, 1), (8, 8, 8, 3), (14, 3, 52, 3), (2, 0, 0, 1), (8, 8, 7, 3), (2, 0, 0, 1), (8, 8, 11, 3), (23, 0, 0, 1), (0, 32, 0, 2), (14, 0, 39, 3), (2, 0, 0, 1), (8, 8, 7, 3), (2, 0, 0, 1), (8, 8, 11, 3), (23, 0, 0, 1), (0, 10, 0, 2), (14, 1, 52, 3), (2, 0, 0, 1), (33, 0, 0, 1), (8, 8, 11, 3), (0, 1, 0, 1), (15, 0, 0, 1), (9, 8, 11, 3), (12, 0, 0, 3), (2, 0, 0, 1), (2, 0, 0, 1), (8, 8, 11, 3), (9, 8, 12, 3), (2, 0, 0, 1), (0, 0, 0, 1), (9, 8, 14, 3), (2, 0, 0, 1), (8, 8, 11, 3), (2, 0, 0, 1), (8, 8, 8, 3), (14, 1, 84, 3), (2, 0, 0, 1), (0, 0, 0, 1), (9, 8, 13, 3), (12, 190, 0, 3), (2, 0, 0, 1), (2, 0, 0, 1), (8, 8, 11, 3), (36, 187, 9250, 3), (13, 0, 102, 3), (2, 0, 0, 1), (36, 190, 9233, 3), (12, 190, 0, 3), (2, 0, 0, 1), (2, 0, 0, 1), (8, 8, 11, 3), (36, 188, 9250, 3), (13, 0, 120, 3), (2, 0, 0, 1), (36, 191, 9233, 3), (12, 190, 0, 3), (2, 0, 0, 1), (2, 0, 0, 1), (8, 8, 7, 3), (2, 0, 0, 1), (8, 8, 11, 3), (23, 0, 0, 1), (0, 59, 0, 2), (14, 1, 139, 3), (0, 3, 0, 1), (12, 177, 0, 3), (2, 0, 0, 1), (8, 8, 7, 3), (2, 0, 0, 1), (8, 8, 11, 3), (23, 0, 0, 1), (0, 43, 0, 2), (14, 1, 157, 3), (0, 4, 0, 1), (12, 177, 0, 3), (2, 0, 0, 1), (8, 8, 7, 3), (2, 0, 0, 1), (8, 8, 11, 3), (23, 0, 0, 1), (0, 45, 0, 2), (14, 1, 175, 3), (0, 5, 0, 1), (12, 177, 0, 3), (0, 6, 0, 2), (9, 8, 13, 3), (2, 0, 0, 1), (33, 0, 0, 1), (8, 8, 11, 3), (0, 1, 0, 1), (15, 0, 0, 1), (9, 8, 11, 3), (40, 0, 0, 1)]
def sc_190 : List sI := [(2, 0, 0, 1), (2, 0, 0, 1), (8, 8, 11, 3), (36, 187, 9250, 3), (13, 0, 62, 3), (2, 0, 0, 1), (8, 8, 11, 3), (2, 0, 0, 1), (8, 8, 12, 3), (16, 0, 0, 1), (0, 6, 0, 2), (14, 3, 49, 3), (2, 0, 0, 1), (0, 27, 0, 2), (2, 0, 0, 1), (8, 8, 14, 3), (17, 0, 0, 1), (2, 0, 0, 1), (8, 8, 7, 3), (2, 0, 0, 1), (8, 8, 11, 3), (23, 0, 0, 1), (15, 0, 0, 1), (0, 96, 0, 2), (16, 0, 0, 1), (9, 8, 14, 3), (2, 0, 0, 1), (33, 0, 0, 1), (8, 8, 11, 3), (0, 1, 0, 1), (15, 0, 0, 1), (9, 8, 11, 3), (12, 0, 0, 3), (2, 0, 0, 1), (2, 0, 0, 1), (8, 8, 11, 3), (2, 0, 0, 1), (8, 8, 12, 3), (16, 0, 0, 1), (0, 6, 0, 2), (14, 5, 82, 3), (0, 6, 0, 2), (12, 83, 0, 3), (0, 1, 0, 1), (9, 8, 13, 3), (40, 0, 0, 1)]
def sc_191 : List sI := [(2, 0, 0, 1), (2, 0, 0, 1), (8, 8, 11, 3), (36, 188, 9250, 3), (13, 0, 61, 3), (2, 0, 0, 1), (8, 8, 11, 3), (2, 0, 0, 1), (8, 8, 12, 3), (16, 0, 0, 1), (0, 2, 0, 1), (14, 3, 48, 3), (2, 0, 0, 1), (0, 10, 0, 2), (2, 0, 0, 1), (8, 8, 14, 3), (17, 0, 0, 1), (2, 0, 0, 1), (8, 8, 7, 3), (2, 0, 0, 1), (8, 8, 11, 3), (23, 0, 0, 1), (15, 0, 0, 1), (0, 48, 0, 2), (16, 0, 0, 1), (9, 8, 14, 3), (2, 0, 0, 1), (33, 0, 0, 1), (8, 8, 11, 3), (0, 1, 0, 1), (15, 0, 0, 1), (9, 8, 11, 3), (12, 0, 0, 3), (2, 0, 0, 1), (2, 0, 0, 1), (8, 8, 11, 3), (2, 0, 0, 1), (8, 8, 12, 3), (16, 0, 0, 1), (0, 2, 0, 1), (14, 5, 80, 3), (0, 6, 0, 2), (12, 81, 0, 3), (0, 2, 0, 1), (9, 8, 13, 3), (40, 0, 0, 1)]
def sc_192 : List sI := [(2, 0, 0, 1), (8, 8, 13, 3), (0, 1, 0, 1), (14, 1, 20, 3), (2, 0, 0, 1), (8, 8, 14, 3), (1, 1, 0, 1), (14, 1, 20, 3), (0, 1, 0, 1), (12, 21, 0, 3), (0, 0, 0, 1), (42, 0, 0, 1)]
def sc_193 : List sI := [(1, 0, 0, 1), (50, 1, 0, 91), (0, 1, 0, 1), (42, 0, 0, 1), (0, 0, 0, 1), (42, 0, 0, 1)]
def sc_194 : List sI := [(2, 0, 0, 1), (8, 8, 15, 3), (13, 0, 9, 3), (0, 0, 0, 1), (42, 0, 0, 1), (1, 1, 0, 1), (13, 1, 28, 3), (2, 0, 0, 1), (0, 1, 0, 1), (10, 8, 15, 3), (2, 0, 0, 1), (2, 0, 0, 1), (8, 8, 12, 3), (9, 8, 9, 3), (0, 0, 0, 1), (42, 0, 0, 1), (2, 0, 0, 1), (36, 189, 9233, 3), (0, 1, 0, 1), (42, 0, 0, 1)]
def sc_195 : List sI := [(2, 0, 0, 1), (8, 8, 14, 3), (4, 3, 0, 1), (2, 0, 0, 1), (2, 0, 0, 1), (8, 8, 13, 3), (0, 2, 0, 1), (14, 1, 27, 3), (1, 3, 0, 1), (1, 1, 0, 1), (1, 2, 0, 1), (36, 152, 51, 3), (13, 0, 27, 3), (0, 1, 0, 1), (12, 28, 0, 3), (0, 0, 0, 1), (36, 194, 9250, 3), (13, 0, 38, 3), (1, 3, 0, 1), (12, 39, 0, 3), (0, 0, 0, 1), (41, 0, 0, 1)]
def sc_196 : List sI := [(2, 0, 0, 1), (8, 8, 15, 3), (13, 1, 15, 3), (2, 0, 0, 1), (1, 1, 0, 1), (36, 192, 9250, 3), (13, 1, 17, 3), (0, 0, 0, 1), (42, 0, 0, 1), (2, 0, 0, 1), (36, 189, 9233, 3), (0, 1, 0, 1), (42, 0, 0, 1)]
def sc_197 : List sI := [(2, 0, 0, 1), (8, 8, 13, 3), (0, 5, 0, 1), (14, 1, 12, 3), (0, 4294967295, 0, 1), (12, 13, 0, 3), (0, 1, 0, 1), (4, 1, 0, 1), (2, 0, 0, 1), (2, 0, 0, 1), (8, 8, 13, 3), (0, 5, 0, 1), (14, 0, 31, 3), (2, 0, 0, 1), (8, 8, 13, 3), (0, 4, 0, 1), (14, 1, 35, 3), (0, 1, 0, 1), (12, 36, 0, 3), (0, 0, 0, 1), (36, 194, 9250, 3), (35, 0, 0, 1), (1, 1, 0, 1), (2, 0, 0, 1), (0, 0, 0, 1), (0, 9, 0, 2), (36, 195, 9283, 3), (17, 0, 0, 1), (41, 0, 0, 1)]
def sc_198 : List sI := [(1, 0, 0, 1), (36, 199, 49, 3), (0, 5, 0, 1), (14, 4, 19, 3), (1, 0, 0, 1), (36, 193, 17, 3), (13, 1, 19, 3), (0, 1, 0, 1), (12, 20, 0, 3), (0, 0, 0, 1), (42, 0, 0, 1)]
def sc_199 : List sI := [(0, 0, 0, 1), (4, 1, 0, 1), (1, 0, 0, 1), (4, 2, 0, 1), (1, 2, 0, 1), (13, 5, 19, 3), (7, 1, 1, 3), (1, 2, 0, 1), (0, 27, 0, 2), (18, 0, 0, 1), (4, 2, 0, 1), (12, 4, 0, 3), (1, 1, 0, 1), (41, 0, 0, 1)]
def sc_200 : List sI := [(1, 0, 0, 1), (4, 2, 0, 1), (1, 0, 0, 1), (36, 199, 49, 3), (0, 1, 0, 1), (16, 0, 0, 1), (4, 3, 0, 1), (1, 3, 0, 1), (1, 1, 0, 1), (14, 5, 25, 3), (1, 2, 0, 1), (0, 27, 0, 2), (18, 0, 0, 1), (4, 2, 0, 1), (7, 3, 4294967295, 3), (12, 9, 0, 3), (1, 2, 0, 1), (0, 27, 0, 2), (19, 0, 0, 1), (41, 0, 0, 1)]
def sc_201 : List sI := [(2, 0, 0, 1), (0, 3, 0, 1), (23, 0, 0, 1), (4, 3, 0, 1), (0, 0, 0, 1), (4, 4, 0, 2), (1, 4, 0, 2), (0, 10, 0, 2), (14, 3, 29, 3), (2, 0, 0, 1), (1, 3, 0, 1), (1, 4, 0, 2), (36, 155, 34, 3), (0, 0, 0, 1), (26, 0, 0, 1), (7, 4, 1, 3), (12, 7, 0, 3), (2, 0, 0, 1), (1, 3, 0, 1), (0, 0, 0, 1), (36, 155, 34, 3), (1, 1, 0, 1), (26, 0, 0, 1), (2, 0, 0, 1), (1, 3, 0, 1), (0, 9, 0, 2), (36, 155, 34, 3), (1, 2, 0, 1), (26, 0, 0, 1), (2, 0, 0, 1), (1, 3, 0, 1), (0, 8, 0, 2), (36, 155, 34, 3), (0, 99, 0, 2), (26, 0, 0, 1), (40, 0, 0, 1)]
def sc_202 : List sI := [(2, 0, 0, 1), (2, 0, 0, 1), (8, 8, 1, 3), (0, 3, 0, 1), (23, 0, 0, 1), (0, 20, 0, 2), (14, 3, 16, 3), (0, 1, 0, 1), (12, 17, 0, 3), (0, 0, 0, 1), (36, 194, 9250, 3), (13, 1, 24, 3), (40, 0, 0, 1), (2, 0, 0, 1), (8, 8, 1, 3), (0, 3, 0, 1), (23, 0, 0, 1), (4, 1, 0, 1), (2, 0, 0, 1), (8, 8, 14, 3), (4, 2, 0, 1), (2, 0, 0, 1), (2, 0, 0, 1), (8, 8, 13, 3), (0, 2, 0, 1), (14, 1, 72, 3), (1, 2, 0, 1), (0, 4, 0, 1), (2, 0, 0, 1), (8, 8, 1, 3), (0, 0, 0, 1), (23, 0, 0, 1), (17, 0, 0, 1), (14, 3, 72, 3), (2, 0, 0, 1), (8, 8, 1, 3), (1, 2, 0, 1), (36, 165, 50, 3), (13, 3, 72, 3), (0, 1, 0, 1), (12, 73, 0, 3), (0, 0, 0, 1), (36, 194, 9250, 3), (35, 0, 0, 1), (2, 0, 0, 1), (8, 8, 14, 3), (4, 3, 0, 1), (2, 0, 0, 1), (2, 0, 0, 1), (8, 8, 13, 3), (0, 1, 0, 1), (14, 1, 102, 3), (1, 3, 0, 1), (36, 198, 17, 3), (13, 0, 102, 3), (0, 1, 0, 1), (12, 103, 0, 3), (0, 0, 0, 1), (36, 194, 9250, 3), (13, 1, 110, 3), (40, 0, 0, 1), (2, 0, 0, 1), (8, 8, 1, 3), (1, 2, 0, 1), (1, 3, 0, 1), (36, 201, 83, 3), (2, 0, 0, 1), (48, 291828332, 0, 2), (36, 196, 9250, 3), (13, 0, 139, 3), (2, 0, 0, 1), (8, 8, 1, 3), (1, 1, 0, 1), (0, 1, 0, 1), (36, 155, 34, 3), (0, 1, 0, 1), (26, 0, 0, 1), (2, 0, 0, 1), (48, 86887672, 0, 2), (36, 196, 9250, 3), (13, 0, 165, 3), (2, 0, 0, 1), (8, 8, 1, 3), (1, 1, 0, 1), (0, 2, 0, 1), (36, 155, 34, 3), (2, 0, 0, 1), (0, 1, 0, 1), (0, 9, 0, 2), (36, 195, 9283, 3), (26, 0, 0, 1), (2, 0, 0, 1), (48, 335086736, 0, 2), (36, 196, 9250, 3), (13, 0, 188, 3), (2, 0, 0, 1), (8, 8, 1, 3), (1, 1, 0, 1), (0, 3, 0, 1), (36, 155, 34, 3), (2, 0, 0, 1), (36, 197, 9249, 3), (26, 0, 0, 1), (2, 0, 0, 1), (48, 692581, 0, 2), (36, 196, 9250, 3), (13, 0, 211, 3), (2, 0, 0, 1), (8, 8, 1, 3), (1, 1, 0, 1), (0, 4, 0, 1), (36, 155, 34, 3), (2, 0, 0, 1), (36, 197, 9249, 3), (26, 0, 0, 1), (2, 0, 0, 1), (0, 13550, 0, 3), (36, 196, 9250, 3), (13, 0, 261, 3), (2, 0, 0, 1), (8, 8, 1, 3), (1, 1, 0, 1), (0, 5, 0, 1), (36, 155, 34, 3), (2, 0, 0, 1), (0, 0, 0, 1), (2, 0, 0, 1), (8, 8, 1, 3), (0, 0, 0, 1), (23, 0, 0, 1), (0, 1, 0, 1), (16, 0, 0, 1), (36, 195, 9283, 3), (26, 0, 0, 1), (2, 0, 0, 1), (8, 8, 1, 3), (1, 1, 0, 1), (0, 6, 0, 2), (36, 155, 34, 3), (2, 0, 0, 1), (0, 0, 0, 1), (0, 3, 0, 1), (36, 195, 9283, 3), (26, 0, 0, 1), (2, 0, 0, 1), (48, 284954995, 0, 2), (36, 196, 9250, 3), (13, 0, 288, 3), (2, 0, 0, 1), (8, 8, 1, 3), (1, 1, 0, 1), (0, 7, 0, 2), (36, 155, 34, 3), (2, 0, 0, 1), (0, 0, 0, 1), (0, 99, 0, 2), (36, 195, 9283, 3), (26, 0, 0, 1), (2, 0, 0, 1), (48, 388978, 0, 2), (36, 196, 9250, 3), (13, 0, 315, 3), (2, 0, 0, 1), (8, 8, 1, 3), (1, 1, 0, 1), (0, 8, 0, 2), (36, 155, 34, 3), (2, 0, 0, 1), (0, 1, 0, 1), (0, 99, 0, 2), (36, 195, 9283, 3), (26, 0, 0, 1), (2, 0, 0, 1), (2, 0, 0, 1), (8, 8, 13, 3), (0, 3, 0, 1), (14, 1, 340, 3), (2, 0, 0, 1), (8, 8, 1, 3), (1, 1, 0, 1), (1, 2, 0, 1), (36, 167, 51, 3), (13, 0, 340, 3), (0, 1, 0, 1), (12, 341, 0, 3), (0, 0, 0, 1), (36, 194, 9250, 3), (13, 0, 357, 3), (2, 0, 0, 1), (8, 8, 1, 3), (0, 3, 0, 1), (34, 0, 0, 1), (23, 0, 0, 1), (0, 1, 0, 1), (15, 0, 0, 1), (26, 0, 0, 1), (40, 0, 0, 1)]
def sc_203 : List sI := [(0, 0, 0, 1), (4, 1, 0, 1), (1, 1, 0, 1), (0, 330, 0, 3), (14, 3, 22, 3), (2, 0, 0, 1), (8, 8, 1, 3), (1, 1, 0, 1), (0, 0, 0, 1), (26, 0, 0, 1), (7, 1, 1, 3), (12, 2, 0, 3), (2, 0, 0, 1), (0, 0, 0, 1), (9, 8, 11, 3), (2, 0, 0, 1), (0, 0, 0, 1), (10, 8, 15, 3), (2, 0, 0, 1), (0, 4294967294, 0, 2), (9, 8, 9, 3), (2, 0, 0, 1), (36, 189, 9233, 3), (2, 0, 0, 1), (2, 0, 0, 1), (48, 10984100, 0, 2), (36, 192, 9250, 3), (36, 194, 9250, 3), (35, 0, 0, 1), (2, 0, 0, 1), (8, 8, 1, 3), (0, 0, 0, 1), (2, 0, 0, 1), (0, 2, 0, 1), (0, 10, 0, 2), (36, 195, 9283, 3), (26, 0, 0, 1), (2, 0, 0, 1), (2, 0, 0, 1), (48, 3379448, 0, 2), (36, 192, 9250, 3), (36, 194, 9250, 3), (35, 0, 0, 1), (2, 0, 0, 1), (8, 8, 1, 3), (0, 1, 0, 1), (2, 0, 0, 1), (0, 0, 0, 1), (2, 0, 0, 1), (8, 8, 1, 3), (0, 0, 0, 1), (23, 0, 0, 1), (36, 195, 9283, 3), (26, 0, 0, 1), (2, 0, 0, 1), (2, 0, 0, 1), (8, 8, 13, 3), (0, 3, 0, 1), (14, 1, 107, 3), (0, 1, 0, 1), (12, 108, 0, 3), (0, 0, 0, 1), (36, 194, 9250, 3), (35, 0, 0, 1), (2, 0, 0, 1), (8, 8, 15, 3), (13, 1, 135, 3), (2, 0, 0, 1), (48, 377669, 0, 2), (36, 192, 9250, 3), (13, 0, 135, 3), (2, 0, 0, 1), (36, 202, 9281, 3), (12, 112, 0, 3), (2, 0, 0, 1), (8, 8, 15, 3), (13, 1, 155, 3), (2, 0, 0, 1), (8, 8, 13, 3), (13, 0, 155, 3), (2, 0, 0, 1), (0, 0, 0, 1), (36, 194, 9250, 3), (35, 0, 0, 1), (2, 0, 0, 1), (0, 0, 0, 1), (9, 8, 8, 3), (2, 0, 0, 1), (8, 8, 15, 3), (13, 0, 169, 3), (0, 4294967295, 0, 1), (41, 0, 0, 1), (2, 0, 0, 1), (8, 8, 1, 3), (0, 0, 0, 1), (2, 0, 0, 1), (8, 8, 0, 3), (0, 0, 0, 1), (36, 153, 84, 3), (2, 0, 0, 1), (0, 0, 0, 1), (9, 8, 6, 3), (0, 0, 0, 1), (4, 1, 0, 1), (1, 1, 0, 1), (0, 2, 0, 1), (14, 3, 207, 3), (2, 0, 0, 1), (8, 8, 5, 3), (1, 1, 0, 1), (0, 0, 0, 1), (27, 0, 0, 1), (7, 1, 1, 3), (12, 189, 0, 3), (2, 0, 0, 1), (8, 8, 0, 3), (0, 3, 0, 1), (23, 0, 0, 1), (41, 0, 0, 1)]
def sc_204 : List sI := [(2, 0, 0, 1), (8, 8, 0, 3), (0, 209, 0, 3), (23, 0, 0, 1), (0, 40, 0, 2), (14, 1, 65, 3), (0, 0, 0, 1), (4, 4, 0, 2), (1, 4, 0, 2), (0, 117, 0, 2), (14, 3, 53, 3), (2, 0, 0, 1), (8, 8, 0, 3), (0, 210, 0, 3), (1, 4, 0, 2), (15, 0, 0, 1), (2, 0, 0, 1), (8, 8, 0, 3), (0, 210, 0, 3), (1, 4, 0, 2), (15, 0, 0, 1), (0, 3, 0, 1), (15, 0, 0, 1), (23, 0, 0, 1), (26, 0, 0, 1), (7, 4, 1, 3), (12, 16, 0, 3), (2, 0, 0, 1), (8, 8, 0, 3), (0, 209, 0, 3), (34, 0, 0, 1), (23, 0, 0, 1), (0, 1, 0, 1), (16, 0, 0, 1), (26, 0, 0, 1), (0, 210, 0, 3), (0, 3, 0, 1), (2, 0, 0, 1), (8, 8, 0, 3), (0, 209, 0, 3), (23, 0, 0, 1), (17, 0, 0, 1), (15, 0, 0, 1), (4, 4, 0, 2), (2, 0, 0, 1), (8, 8, 0, 3), (1, 4, 0, 2), (1, 1, 0, 1), (26, 0, 0, 1), (2, 0, 0, 1), (8, 8, 0, 3), (1, 4, 0, 2), (0, 1, 0, 1), (15, 0, 0, 1), (1, 2, 0, 1), (26, 0, 0, 1), (2, 0, 0, 1), (8, 8, 0, 3), (1, 4, 0, 2), (0, 2, 0, 1), (15, 0, 0, 1), (1, 3, 0, 1), (26, 0, 0, 1), (2, 0, 0, 1), (8, 8, 0, 3), (0, 209, 0, 3), (34, 0, 0, 1), (23, 0, 0, 1), (0, 1, 0, 1), (15, 0, 0, 1), (26, 0, 0, 1), (40, 0, 0, 1)]
def sc_205 : List sI := [(2, 0, 0, 1), (8, 8, 6, 3), (0, 8, 0, 2), (14, 1, 56, 3), (0, 1, 0, 1), (4, 1, 0, 1), (1, 1, 0, 1), (0, 8, 0, 2), (14, 3, 46, 3), (2, 0, 0, 1), (8, 8, 3, 3), (0, 330, 0, 3), (1, 1, 0, 1), (17, 0, 0, 1), (2, 0, 0, 1), (8, 8, 3, 3), (0, 330, 0, 3), (1, 1, 0, 1), (0, 1, 0, 1), (16, 0, 0, 1), (17, 0, 0, 1), (36, 153, 84, 3), (7, 1, 1, 3), (12, 11, 0, 3), (2, 0, 0, 1), (33, 0, 0, 1), (8, 8, 6, 3), (0, 1, 0, 1), (16, 0, 0, 1), (9, 8, 6, 3), (2, 0, 0, 1), (8, 8, 0, 3), (0, 0, 0, 1), (2, 0, 0, 1), (8, 8, 3, 3), (0, 330, 0, 3), (2, 0, 0, 1), (8, 8, 6, 3), (17, 0, 0, 1), (36, 153, 84, 3), (2, 0, 0, 1), (33, 0, 0, 1), (8, 8, 6, 3), (0, 1, 0, 1), (15, 0, 0, 1), (9, 8, 6, 3), (40, 0, 0, 1)]
def sc_206 : List sI := [(0, 4294967286, 0, 2), (1, 0, 0, 1), (16, 0, 0, 1), (41, 0, 0, 1)]
def sc_207 : List sI := [(0, 0, 0, 1), (4, 1, 0, 1), (2, 0, 0, 1), (8, 8, 8, 3), (0, 1, 0, 1), (0, 5, 0, 1), (36, 152, 51, 3), (4, 2, 0, 1), (0, 0, 0, 1), (4, 3, 0, 1), (1, 3, 0, 1), (2, 0, 0, 1), (8, 8, 8, 3), (14, 3, 53, 3), (1, 2, 0, 1), (13, 0, 53, 3), (2, 0, 0, 1), (1, 3, 0, 1), (36, 187, 9250, 3), (4, 2, 0, 1), (0, 27, 0, 2), (1, 1, 0, 1), (17, 0, 0, 1), (2, 0, 0, 1), (8, 8, 7, 3), (1, 3, 0, 1), (23, 0, 0, 1), (15, 0, 0, 1), (0, 96, 0, 2), (16, 0, 0, 1), (4, 1, 0, 1), (7, 3, 1, 3), (12, 14, 0, 3), (1, 2, 0, 1), (13, 0, 68, 3), (1, 1, 0, 1), (36, 198, 17, 3), (13, 0, 68, 3), (1, 1, 0, 1), (12, 69, 0, 3), (0, 4294967295, 0, 1), (41, 0, 0, 1)]
def sc_208 : List sI := [(2, 0, 0, 1), (36, 207, 9281, 3), (4, 6, 0, 2), (2, 0, 0, 1), (1, 1, 0, 1), (36, 157, 9250, 3), (13, 0, 60, 3), (1, 2, 0, 1), (0, 0, 0, 1), (0, 1, 0, 1), (36, 152, 51, 3), (13, 0, 60, 3), (1, 3, 0, 1), (0, 0, 0, 1), (0, 9, 0, 2), (36, 152, 51, 3), (13, 0, 60, 3), (1, 4, 0, 2), (0, 0, 0, 1), (0, 99, 0, 2), (36, 152, 51, 3), (13, 0, 60, 3), (1, 5, 0, 2), (0, 1, 0, 1), (0, 99, 0, 2), (36, 152, 51, 3), (13, 0, 60, 3), (1, 6, 0, 2), (13, 3, 62, 3), (0, 4294967295, 0, 1), (41, 0, 0, 1), (2, 0, 0, 1), (8, 8, 0, 3), (0, 3, 0, 1), (23, 0, 0, 1), (0, 20, 0, 2), (14, 1, 76, 3), (0, 4294967293, 0, 2), (41, 0, 0, 1), (2, 0, 0, 1), (8, 8, 0, 3), (1, 1, 0, 1), (36, 165, 50, 3), (13, 3, 101, 3), (1, 2, 0, 1), (1, 1, 0, 1), (2, 0, 0, 1), (8, 8, 0, 3), (0, 1, 0, 1), (23, 0, 0, 1), (36, 166, 51, 3), (13, 1, 104, 3), (0, 4294967292, 0, 2), (41, 0, 0, 1), (2, 0, 0, 1), (36, 205, 9249, 3), (2, 0, 0, 1), (0, 0, 0, 1), (9, 8, 8, 3), (2, 0, 0, 1), (8, 8, 0, 3), (0, 3, 0, 1), (23, 0, 0, 1), (4, 7, 0, 2), (2, 0, 0, 1), (8, 8, 0, 3), (1, 1, 0, 1), (1, 6, 0, 2), (36, 201, 83, 3), (2, 0, 0, 1), (8, 8, 0, 3), (1, 7, 0, 2), (0, 1, 0, 1), (36, 155, 34, 3), (1, 2, 0, 1), (26, 0, 0, 1), (2, 0, 0, 1), (8, 8, 0, 3), (1, 7, 0, 2), (0, 2, 0, 1), (36, 155, 34, 3), (1, 3, 0, 1), (26, 0, 0, 1), (2, 0, 0, 1), (8, 8, 0, 3), (1, 7, 0, 2), (0, 7, 0, 2), (36, 155, 34, 3), (1, 4, 0, 2), (26, 0, 0, 1), (2, 0, 0, 1), (8, 8, 0, 3), (1, 7, 0, 2), (0, 8, 0, 2), (36, 155, 34, 3), (1, 5, 0, 2), (26, 0, 0, 1), (2, 0, 0, 1), (8, 8, 0, 3), (0, 3, 0, 1), (34, 0, 0, 1), (23, 0, 0, 1), (0, 1, 0, 1), (15, 0, 0, 1), (26, 0, 0, 1), (2, 0, 0, 1), (0, 0, 0, 1), (1, 7, 0, 2), (1, 1, 0, 1), (36, 204, 9300, 3), (1, 7, 0, 2), (41, 0, 0, 1)]
def sc_209 : List sI := [(1, 0, 0, 1), (0, 4, 0, 1), (14, 1, 9, 3), (0, 1, 0, 1), (12, 12, 0, 3), (0, 3, 0, 1), (1, 0, 0, 1), (15, 0, 0, 1), (41, 0, 0, 1)]
def sc_210 : List sI := [(1, 1, 0, 1), (46, 1, 0, 35), (1, 2, 0, 1), (0, 4294967287, 0, 2), (0, 9, 0, 2), (36, 152, 51, 3), (42, 0, 0, 1), (1, 2, 0, 1), (0, 0, 0, 1), (2, 0, 0, 1), (8, 8, 0, 3), (0, 0, 0, 1), (23, 0, 0, 1), (0, 1, 0, 1), (16, 0, 0, 1), (36, 152, 51, 3), (42, 0, 0, 1), (1, 2, 0, 1), (0, 0, 0, 1), (0, 3, 0, 1), (36, 152, 51, 3), (42, 0, 0, 1), (1, 2, 0, 1), (0, 0, 0, 1), (0, 1, 0, 1), (36, 152, 51, 3), (42, 0, 0, 1), (0, 0, 0, 1), (42, 0, 0, 1)]
def sc_211 : List sI := [(2, 0, 0, 1), (1, 1, 0, 1), (36, 156, 9250, 3), (13, 0, 17, 3), (2, 0, 0, 1), (1, 2, 0, 1), (1, 3, 0, 1), (36, 210, 9267, 3), (13, 1, 19, 3), (0, 4294967295, 0, 1), (41, 0, 0, 1), (2, 0, 0, 1), (8, 8, 0, 3), (1, 1, 0, 1), (1, 2, 0, 1), (36, 209, 17, 3), (36, 155, 34, 3), (23, 0, 0, 1), (4, 4, 0, 2), (1, 4, 0, 2), (1, 3, 0, 1), (14, 1, 43, 3), (0, 4294967294, 0, 2), (41, 0, 0, 1), (1, 2, 0, 1), (0, 4, 0, 1), (14, 1, 74, 3), (1, 3, 0, 1), (2, 0, 0, 1), (8, 8, 0, 3), (1, 1, 0, 1), (0, 0, 0, 1), (36, 155, 34, 3), (23, 0, 0, 1), (2, 0, 0, 1), (8, 8, 0, 3), (0, 1, 0, 1), (23, 0, 0, 1), (36, 166, 51, 3), (13, 1, 74, 3), (0, 4294967292, 0, 2), (41, 0, 0, 1), (2, 0, 0, 1), (36, 205, 9249, 3), (2, 0, 0, 1), (8, 8, 0, 3), (1, 1, 0, 1), (1, 2, 0, 1), (36, 209, 17, 3), (36, 155, 34, 3), (1, 3, 0, 1), (26, 0, 0, 1), (2, 0, 0, 1), (0, 6, 0, 2), (0, 10, 0, 2), (1, 1, 0, 1), (17, 0, 0, 1), (1, 2, 0, 1), (15, 0, 0, 1), (1, 4, 0, 2), (36, 204, 9300, 3), (1, 2, 0, 1), (0, 2, 0, 1), (14, 3, 119, 3), (1, 4, 0, 2), (0, 9, 0, 2), (15, 0, 0, 1), (12, 121, 0, 3), (1, 4, 0, 2), (41, 0, 0, 1)]
def sc_212 : List sI := [(0, 0, 0, 1), (4, 2, 0, 1), (0, 0, 0, 1), (4, 3, 0, 1), (1, 3, 0, 1), (2, 0, 0, 1), (0, 3, 0, 1), (23, 0, 0, 1), (14, 3, 41, 3), (2, 0, 0, 1), (1, 3, 0, 1), (0, 1, 0, 1), (36, 155, 34, 3), (23, 0, 0, 1), (2, 0, 0, 1), (1, 3, 0, 1), (0, 0, 0, 1), (36, 155, 34, 3), (23, 0, 0, 1), (1, 1, 0, 1), (36, 166, 51, 3), (13, 1, 35, 3), (7, 2, 1, 3), (7, 3, 1, 3), (12, 4, 0, 3), (1, 2, 0, 1), (41, 0, 0, 1)]
def sc_213 : List sI := [(1, 1, 0, 1), (0, 0, 0, 1), (2, 0, 0, 1), (8, 8, 0, 3), (0, 0, 0, 1), (23, 0, 0, 1), (36, 152, 51, 3), (13, 1, 16, 3), (0, 4294967295, 0, 1), (41, 0, 0, 1), (2, 0, 0, 1), (8, 8, 0, 3), (0, 1, 0, 1), (23, 0, 0, 1), (4, 2, 0, 1), (1, 2, 0, 1), (1, 1, 0, 1), (14, 1, 31, 3), (0, 4294967294, 0, 2), (41, 0, 0, 1), (2, 0, 0, 1), (8, 8, 0, 3), (1, 1, 0, 1), (36, 212, 66, 3), (13, 5, 45, 3), (0, 4294967292, 0, 2), (41, 0, 0, 1), (2, 0, 0, 1), (36, 205, 9249, 3), (2, 0, 0, 1), (8, 8, 0, 3), (0, 1, 0, 1), (1, 1, 0, 1), (26, 0, 0, 1), (2, 0, 0, 1), (0, 7, 0, 2), (0, 0, 0, 1), (1, 2, 0, 1), (36, 204, 9300, 3), (1, 2, 0, 1), (41, 0, 0, 1)]
def sc_214 : List sI := [(2, 0, 0, 1), (1, 1, 0, 1), (1, 2, 0, 1), (36, 158, 9267, 3), (13, 0, 16, 3), (1, 3, 0, 1), (36, 159, 17, 3), (13, 1, 18, 3), (0, 4294967295, 0, 1), (41, 0, 0, 1), (2, 0, 0, 1), (8, 8, 0, 3), (1, 1, 0, 1), (1, 2, 0, 1), (1, 3, 0, 1), (36, 176, 68, 3), (4, 4, 0, 2), (1, 4, 0, 2), (13, 5, 41, 3), (1, 4, 0, 2), (36, 206, 17, 3), (41, 0, 0, 1), (2, 0, 0, 1), (36, 205, 9249, 3), (2, 0, 0, 1), (8, 8, 0, 3), (1, 1, 0, 1), (1, 2, 0, 1), (1, 1, 0, 1), (36, 175, 100, 3), (2, 0, 0, 1), (8, 8, 0, 3), (1, 1, 0, 1), (1, 2, 0, 1), (1, 2, 0, 1), (36, 175, 100, 3), (15, 0, 0, 1), (4, 5, 0, 2), (2, 0, 0, 1), (8, 8, 0, 3), (1, 1, 0, 1), (1, 2, 0, 1), (36, 173, 67, 3), (2, 0, 0, 1), (8, 8, 0, 3), (1, 1, 0, 1), (0, 7, 0, 2), (36, 155, 34, 3), (34, 0, 0, 1), (23, 0, 0, 1), (1, 3, 0, 1), (16, 0, 0, 1), (26, 0, 0, 1), (2, 0, 0, 1), (8, 8, 0, 3), (1, 2, 0, 1), (0, 7, 0, 2), (36, 155, 34, 3), (34, 0, 0, 1), (23, 0, 0, 1), (1, 3, 0, 1), (15, 0, 0, 1), (26, 0, 0, 1), (2, 0, 0, 1), (8, 8, 0, 3), (0, 7, 0, 2), (34, 0, 0, 1), (23, 0, 0, 1), (1, 3, 0, 1), (15, 0, 0, 1), (26, 0, 0, 1), (2, 0, 0, 1), (8, 8, 0, 3), (0, 4, 0, 1), (34, 0, 0, 1), (23, 0, 0, 1), (0, 1, 0, 1), (15, 0, 0, 1), (26, 0, 0, 1), (2, 0, 0, 1), (0, 1, 0, 1), (0, 100, 0, 2), (1, 1, 0, 1), (17, 0, 0, 1), (1, 2, 0, 1), (15, 0, 0, 1), (1, 3, 0, 1), (36, 204, 9300, 3), (1, 5, 0, 2), (0, 100, 0, 2), (15, 0, 0, 1), (41, 0, 0, 1)]
def sc_215 : List sI := [(2, 0, 0, 1), (1, 1, 0, 1), (36, 156, 9250, 3), (13, 0, 16, 3), (2, 0, 0, 1), (1, 2, 0, 1), (36, 157, 9250, 3), (13, 1, 18, 3), (0, 4294967295, 0, 1), (41, 0, 0, 1), (2, 0, 0, 1), (8, 8, 0, 3), (1, 1, 0, 1), (1, 2, 0, 1), (36, 177, 51, 3), (4, 3, 0, 1), (1, 3, 0, 1), (13, 5, 37, 3), (1, 3, 0, 1), (36, 206, 17, 3), (41, 0, 0, 1), (2, 0, 0, 1), (36, 205, 9249, 3), (2, 0, 0, 1), (8, 8, 0, 3), (1, 1, 0, 1), (0, 0, 0, 1), (36, 155, 34, 3), (23, 0, 0, 1), (4, 4, 0, 2), (2, 0, 0, 1), (8, 8, 0, 3), (1, 1, 0, 1), (1, 2, 0, 1), (36, 169, 83, 3), (2, 0, 0, 1), (8, 8, 0, 3), (1, 1, 0, 1), (36, 170, 34, 3), (16, 0, 0, 1), (4, 5, 0, 2), (2, 0, 0, 1), (8, 8, 0, 3), (1, 1, 0, 1), (0, 0, 0, 1), (36, 155, 34, 3), (1, 2, 0, 1), (26, 0, 0, 1), (2, 0, 0, 1), (8, 8, 0, 3), (0, 5, 0, 1), (34, 0, 0, 1), (23, 0, 0, 1), (0, 1, 0, 1), (15, 0, 0, 1), (26, 0, 0, 1), (2, 0, 0, 1), (0, 2, 0, 1), (1, 1, 0, 1), (1, 4, 0, 2), (36, 204, 9300, 3), (1, 5, 0, 2), (41, 0, 0, 1)]
def sc_216 : List sI := [(2, 0, 0, 1), (1, 1, 0, 1), (1, 2, 0, 1), (36, 158, 9267, 3), (13, 0, 23, 3), (2, 0, 0, 1), (1, 2, 0, 1), (1, 3, 0, 1), (36, 158, 9267, 3), (13, 0, 23, 3), (1, 1, 0, 1), (1, 3, 0, 1), (14, 1, 25, 3), (0, 4294967295, 0, 1), (41, 0, 0, 1), (2, 0, 0, 1), (8, 8, 0, 3), (1, 1, 0, 1), (1, 2, 0, 1), (1, 3, 0, 1), (36, 179, 68, 3), (4, 4, 0, 2), (1, 4, 0, 2), (13, 5, 48, 3), (1, 4, 0, 2), (36, 206, 17, 3), (41, 0, 0, 1), (2, 0, 0, 1), (36, 205, 9249, 3), (2, 0, 0, 1), (8, 8, 0, 3), (1, 1, 0, 1), (1, 2, 0, 1), (1, 3, 0, 1), (36, 180, 68, 3), (4, 5, 0, 2), (2, 0, 0, 1), (8, 8, 0, 3), (1, 1, 0, 1), (1, 2, 0, 1), (1, 3, 0, 1), (36, 174, 84, 3), (2, 0, 0, 1), (8, 8, 0, 3), (0, 6, 0, 2), (34, 0, 0, 1), (23, 0, 0, 1), (0, 1, 0, 1), (15, 0, 0, 1), (26, 0, 0, 1), (2, 0, 0, 1), (0, 3, 0, 1), (0, 10000, 0, 3), (1, 1, 0, 1), (17, 0, 0, 1), (0, 100, 0, 2), (1, 2, 0, 1), (17, 0, 0, 1), (15, 0, 0, 1), (1, 3, 0, 1), (15, 0, 0, 1), (0, 0, 0, 1), (36, 204, 9300, 3), (1, 5, 0, 2), (41, 0, 0, 1)]
def sc_217 : List sI := [(2, 0, 0, 1), (36, 154, 9233, 3), (2, 0, 0, 1), (8, 8, 2, 3), (36, 171, 49, 3), (4, 1, 0, 1), (2, 0, 0, 1), (8, 8, 2, 3), (36, 183, 49, 3), (4, 2, 0, 1), (1, 2, 0, 1), (13, 1, 27, 3), (0, 4294967294, 0, 2), (41, 0, 0, 1), (2, 0, 0, 1), (36, 205, 9249, 3), (2, 0, 0, 1), (8, 8, 2, 3), (0, 0, 0, 1), (2, 0, 0, 1), (8, 8, 0, 3), (0, 0, 0, 1), (36, 153, 84, 3), (2, 0, 0, 1), (8, 8, 0, 3), (0, 4, 0, 1), (34, 0, 0, 1), (23, 0, 0, 1), (1, 2, 0, 1), (15, 0, 0, 1), (26, 0, 0, 1), (2, 0, 0, 1), (0, 5, 0, 1), (1, 2, 0, 1), (2, 0, 0, 1), (8, 8, 0, 3), (36, 171, 49, 3), (1, 1, 0, 1), (16, 0, 0, 1), (36, 204, 9300, 3), (1, 2, 0, 1), (41, 0, 0, 1)]
def sc_218 : List sI := [(2, 0, 0, 1), (0, 4, 0, 1), (1, 1, 0, 1), (2, 0, 0, 1), (8, 8, 0, 3), (1, 1, 0, 1), (0, 0, 0, 1), (36, 155, 34, 3), (23, 0, 0, 1), (36, 204, 9300, 3), (2, 0, 0, 1), (8, 8, 0, 3), (0, 3, 0, 1), (34, 0, 0, 1), (23, 0, 0, 1), (0, 1, 0, 1), (16, 0, 0, 1), (26, 0, 0, 1), (1, 1, 0, 1), (0, 0, 0, 1), (36, 155, 34, 3), (4, 2, 0, 1), (1, 2, 0, 1), (2, 0, 0, 1), (8, 8, 0, 3), (0, 3, 0, 1), (23, 0, 0, 1), (0, 0, 0, 1), (36, 155, 34, 3), (14, 3, 67, 3), (2, 0, 0, 1), (8, 8, 0, 3), (1, 2, 0, 1), (2, 0, 0, 1), (8, 8, 0, 3), (1, 2, 0, 1), (0, 10, 0, 2), (15, 0, 0, 1), (23, 0, 0, 1), (26, 0, 0, 1), (7, 2, 1, 3), (12, 32, 0, 3), (2, 0, 0, 1), (8, 8, 0, 3), (0, 8, 0, 2), (34, 0, 0, 1), (23, 0, 0, 1), (0, 1, 0, 1), (15, 0, 0, 1), (26, 0, 0, 1), (40, 0, 0, 1)]
def sc_219 : List sI := [(2, 0, 0, 1), (8, 8, 0, 3), (0, 2, 0, 1), (34, 0, 0, 1), (23, 0, 0, 1), (0, 1, 0, 1), (15, 0, 0, 1), (26, 0, 0, 1), (2, 0, 0, 1), (8, 8, 0, 3), (0, 3, 0, 1), (23, 0, 0, 1), (0, 1, 0, 1), (16, 0, 0, 1), (4, 1, 0, 1), (1, 1, 0, 1), (13, 2, 54, 3), (2, 0, 0, 1), (8, 8, 0, 3), (1, 1, 0, 1), (0, 8, 0, 2), (36, 155, 34, 3), (23, 0, 0, 1), (2, 0, 0, 1), (8, 8, 0, 3), (0, 2, 0, 1), (23, 0, 0, 1), (14, 1, 48, 3), (2, 0, 0, 1), (1, 1, 0, 1), (36, 218, 9266, 3), (7, 1, 4294967295, 3), (12, 19, 0, 3), (40, 0, 0, 1)]
def sc_220 : List sI := [(1, 1, 0, 1), (0, 1, 0, 1), (0, 50, 0, 2), (36, 152, 51, 3), (13, 1, 12, 3), (0, 4294967295, 0, 1), (41, 0, 0, 1), (2, 0, 0, 1), (8, 8, 0, 3), (0, 2, 0, 1), (23, 0, 0, 1), (1, 1, 0, 1), (15, 0, 0, 1), (0, 999, 0, 3), (14, 5, 29, 3), (0, 4294967293, 0, 2), (41, 0, 0, 1), (2, 0, 0, 1), (36, 205, 9249, 3), (2, 0, 0, 1), (8, 8, 0, 3), (0, 8, 0, 2), (23, 0, 0, 1), (4, 2, 0, 1), (0, 0, 0, 1), (4, 3, 0, 1), (1, 3, 0, 1), (1, 1, 0, 1), (14, 3, 58, 3), (2, 0, 0, 1), (36, 219, 9249, 3), (7, 3, 1, 3), (12, 43, 0, 3), (2, 0, 0, 1), (8, 8, 0, 3), (0, 8, 0, 2), (23, 0, 0, 1), (1, 2, 0, 1), (16, 0, 0, 1), (41, 0, 0, 1)]
def sc_221 : List sI := [(1, 1, 0, 1), (0, 0, 0, 1), (0, 1, 0, 1), (36, 152, 51, 3), (13, 1, 11, 3), (0, 4294967295, 0, 1), (41, 0, 0, 1), (2, 0, 0, 1), (8, 8, 0, 3), (0, 0, 0, 1), (2, 0, 0, 1), (8, 8, 4, 3), (0, 330, 0, 3), (1, 1, 0, 1), (17, 0, 0, 1), (36, 153, 84, 3), (2, 0, 0, 1), (8, 8, 5, 3), (1, 1, 0, 1), (0, 1, 0, 1), (27, 0, 0, 1), (2, 0, 0, 1), (8, 8, 0, 3), (0, 3, 0, 1), (23, 0, 0, 1), (41, 0, 0, 1)]
def sc_222 : List sI := [(1, 1, 0, 1), (0, 0, 0, 1), (0, 1, 0, 1), (36, 152, 51, 3), (13, 1, 11, 3), (0, 4294967295, 0, 1), (41, 0, 0, 1), (2, 0, 0, 1), (8, 8, 5, 3), (1, 1, 0, 1), (24, 0, 0, 1), (13, 1, 23, 3), (0, 4294967294, 0, 2), (41, 0, 0, 1), (2, 0, 0, 1), (36, 205, 9249, 3), (2, 0, 0, 1), (8, 8, 4, 3), (0, 330, 0, 3), (1, 1, 0, 1), (17, 0, 0, 1), (2, 0, 0, 1), (8, 8, 0, 3), (0, 0, 0, 1), (36, 153, 84, 3), (2, 0, 0, 1), (8, 8, 0, 3), (0, 3, 0, 1), (23, 0, 0, 1), (41, 0, 0, 1)]
def sc_223 : List sI := [(2, 0, 0, 1), (8, 8, 6, 3), (13, 1, 9, 3), (0, 4294967295, 0, 1), (41, 0, 0, 1), (2, 0, 0, 1), (33, 0, 0, 1), (8, 8, 6, 3), (0, 1, 0, 1), (16, 0, 0, 1), (9, 8, 6, 3), (2, 0, 0, 1), (8, 8, 3, 3), (0, 330, 0, 3), (2, 0, 0, 1), (8, 8, 6, 3), (17, 0, 0, 1), (2, 0, 0, 1), (8, 8, 0, 3), (0, 0, 0, 1), (36, 153, 84, 3), (2, 0, 0, 1), (8, 8, 6, 3), (41, 0, 0, 1)]
def sc_224 : List sI := [(0, 0, 0, 1), (4, 1, 0, 1), (0, 0, 0, 1), (4, 2, 0, 1), (1, 2, 0, 1), (2, 0, 0, 1), (8, 8, 0, 3), (0, 3, 0, 1), (23, 0, 0, 1), (14, 3, 34, 3), (1, 1, 0, 1), (2, 0, 0, 1), (8, 8, 0, 3), (1, 2, 0, 1), (0, 7, 0, 2), (36, 155, 34, 3), (23, 0, 0, 1), (15, 0, 0, 1), (4, 1, 0, 1), (7, 2, 1, 3), (12, 4, 0, 3), (1, 1, 0, 1), (41, 0, 0, 1)]
def sc_225 : List sI := [(0, 0, 0, 1), (4, 2, 0, 1), (0, 0, 0, 1), (4, 3, 0, 1), (1, 3, 0, 1), (2, 0, 0, 1), (8, 8, 0, 3), (0, 3, 0, 1), (23, 0, 0, 1), (14, 3, 37, 3), (2, 0, 0, 1), (8, 8, 0, 3), (1, 3, 0, 1), (0, 2, 0, 1), (36, 155, 34, 3), (23, 0, 0, 1), (1, 1, 0, 1), (14, 1, 31, 3), (7, 2, 1, 3), (7, 3, 1, 3), (12, 4, 0, 3), (1, 2, 0, 1), (41, 0, 0, 1)]
def sc_226 : List sI := [(0, 0, 0, 1), (4, 1, 0, 1), (0, 1, 0, 1), (4, 2, 0, 1), (1, 2, 0, 1), (0, 9, 0, 2), (14, 4, 27, 3), (2, 0, 0, 1), (1, 2, 0, 1), (36, 225, 9282, 3), (13, 5, 21, 3), (7, 1, 1, 3), (7, 2, 1, 3), (12, 4, 0, 3), (1, 1, 0, 1), (41, 0, 0, 1)]
def sc_227 : List sI := [(1, 1, 0, 1), (46, 1, 0, 83), (2, 0, 0, 1), (8, 8, 0, 3), (1, 1, 0, 1), (23, 0, 0, 1), (41, 0, 0, 1), (0, 4, 0, 1), (2, 0, 0, 1), (8, 8, 0, 3), (0, 0, 0, 1), (23, 0, 0, 1), (17, 0, 0, 1), (2, 0, 0, 1), (8, 8, 0, 3), (0, 3, 0, 1), (23, 0, 0, 1), (16, 0, 0, 1), (41, 0, 0, 1), (2, 0, 0, 1), (8, 8, 0, 3), (36, 171, 49, 3), (0, 10000, 0, 3), (15, 0, 0, 1), (41, 0, 0, 1), (2, 0, 0, 1), (8, 8, 0, 3), (36, 172, 49, 3), (41, 0, 0, 1), (2, 0, 0, 1), (36, 224, 9265, 3), (41, 0, 0, 1), (2, 0, 0, 1), (8, 8, 0, 3), (0, 4, 0, 1), (1, 1, 0, 1), (15, 0, 0, 1), (0, 8, 0, 2), (16, 0, 0, 1), (23, 0, 0, 1), (41, 0, 0, 1), (2, 0, 0, 1), (8, 8, 0, 3), (36, 164, 17, 3), (41, 0, 0, 1), (2, 0, 0, 1), (36, 226, 9265, 3), (41, 0, 0, 1), (2, 0, 0, 1), (8, 8, 0, 3), (0, 209, 0, 3), (23, 0, 0, 1), (41, 0, 0, 1), (2, 0, 0, 1), (8, 8, 6, 3), (41, 0, 0, 1), (0, 4294967295, 0, 1), (41, 0, 0, 1)]
def sc_228 : List sI := [(0, 0, 0, 1), (4, 2, 0, 1), (2, 0, 0, 1), (8, 8, 0, 3), (1, 1, 0, 1), (36, 170, 34, 3), (4, 3, 0, 1), (0, 0, 0, 1), (4, 4, 0, 2), (1, 4, 0, 2), (2, 0, 0, 1), (8, 8, 0, 3), (0, 3, 0, 1), (23, 0, 0, 1), (14, 3, 63, 3), (2, 0, 0, 1), (8, 8, 0, 3), (1, 4, 0, 2), (36, 170, 34, 3), (4, 5, 0, 2), (1, 5, 0, 2), (1, 3, 0, 1), (14, 4, 54, 3), (1, 5, 0, 2), (1, 3, 0, 1), (14, 1, 57, 3), (1, 4, 0, 2), (1, 1, 0, 1), (14, 3, 57, 3), (7, 2, 1, 3), (7, 4, 1, 3), (12, 14, 0, 3), (1, 2, 0, 1), (41, 0, 0, 1)]
def sc_229 : List sI := [(2, 0, 0, 1), (1, 1, 0, 1), (36, 156, 9250, 3), (13, 1, 10, 3), (0, 4294967295, 0, 1), (41, 0, 0, 1), (2, 0, 0, 1), (8, 8, 0, 3), (1, 1, 0, 1), (0, 0, 0, 1), (36, 155, 34, 3), (23, 0, 0, 1), (4, 3, 0, 1), (1, 2, 0, 1), (46, 22, 0, 62), (1, 3, 0, 1), (41, 0, 0, 1), (2, 0, 0, 1), (8, 8, 0, 3), (1, 1, 0, 1), (0, 1, 0, 1), (36, 155, 34, 3), (23, 0, 0, 1), (41, 0, 0, 1), (2, 0, 0, 1), (8, 8, 0, 3), (1, 1, 0, 1), (0, 2, 0, 1), (36, 155, 34, 3), (23, 0, 0, 1), (41, 0, 0, 1), (2, 0, 0, 1), (8, 8, 0, 3), (1, 1, 0, 1), (0, 3, 0, 1), (36, 155, 34, 3), (23, 0, 0, 1), (0, 9, 0, 2), (15, 0, 0, 1), (41, 0, 0, 1), (2, 0, 0, 1), (8, 8, 0, 3), (1, 1, 0, 1), (0, 4, 0, 1), (36, 155, 34, 3), (23, 0, 0, 1), (0, 9, 0, 2), (15, 0, 0, 1), (41, 0, 0, 1), (2, 0, 0, 1), (8, 8, 0, 3), (1, 1, 0, 1), (0, 5, 0, 1), (36, 155, 34, 3), (23, 0, 0, 1), (41, 0, 0, 1), (2, 0, 0, 1), (8, 8, 0, 3), (1, 1, 0, 1), (0, 6, 0, 2), (36, 155, 34, 3), (23, 0, 0, 1), (41, 0, 0, 1), (2, 0, 0, 1), (8, 8, 0, 3), (1, 1, 0, 1), (0, 7, 0, 2), (36, 155, 34, 3), (23, 0, 0, 1), (41, 0, 0, 1), (2, 0, 0, 1), (8, 8, 0, 3), (1, 1, 0, 1), (0, 8, 0, 2), (36, 155, 34, 3), (23, 0, 0, 1), (41, 0, 0, 1), (2, 0, 0, 1), (8, 8, 0, 3), (1, 1, 0, 1), (36, 170, 34, 3), (0, 100, 0, 2), (15, 0, 0, 1), (41, 0, 0, 1), (2, 0, 0, 1), (8, 8, 0, 3), (1, 1, 0, 1), (1, 3, 0, 1), (36, 161, 17, 3), (36, 168, 99, 3), (41, 0, 0, 1), (2, 0, 0, 1), (1, 1, 0, 1), (36, 228, 9314, 3), (41, 0, 0, 1), (0, 4294967295, 0, 1), (41, 0, 0, 1)]
def sc_230 : List sI := [(2, 0, 0, 1), (1, 1, 0, 1), (36, 156, 9250, 3), (13, 0, 12, 3), (1, 2, 0, 1), (13, 3, 14, 3), (0, 4294967295, 0, 1), (41, 0, 0, 1), (2, 0, 0, 1), (8, 8, 0, 3), (1, 1, 0, 1), (0, 9, 0, 2), (36, 155, 34, 3), (23, 0, 0, 1), (4, 3, 0, 1), (1, 2, 0, 1), (1, 3, 0, 1), (36, 199, 49, 3), (14, 3, 42, 3), (1, 3, 0, 1), (1, 2, 0, 1), (36, 200, 66, 3), (12, 44, 0, 3), (0, 4294967294, 0, 2), (41, 0, 0, 1)]
def sc_231 : List sI := [(2, 0, 0, 1), (1, 1, 0, 1), (36, 157, 9250, 3), (13, 0, 19, 3), (2, 0, 0, 1), (8, 8, 0, 3), (1, 1, 0, 1), (36, 165, 50, 3), (12, 20, 0, 3), (0, 4294967295, 0, 1), (41, 0, 0, 1)]
def sc_232 : List sI := [(2, 0, 0, 1), (8, 8, 0, 3), (1, 1, 0, 1), (0, 0, 0, 1), (36, 155, 34, 3), (23, 0, 0, 1), (36, 161, 17, 3), (1, 2, 0, 1), (14, 1, 21, 3), (0, 1, 0, 1), (12, 22, 0, 3), (0, 0, 0, 1), (42, 0, 0, 1)]
def sc_233 : List sI := [(0, 0, 0, 1), (4, 3, 0, 1), (0, 0, 0, 1), (4, 4, 0, 2), (1, 4, 0, 2), (2, 0, 0, 1), (8, 8, 0, 3), (0, 3, 0, 1), (23, 0, 0, 1), (14, 3, 50, 3), (2, 0, 0, 1), (1, 4, 0, 2), (1, 1, 0, 1), (36, 232, 9267, 3), (13, 0, 44, 3), (2, 0, 0, 1), (8, 8, 0, 3), (1, 4, 0, 2), (0, 2, 0, 1), (36, 155, 34, 3), (23, 0, 0, 1), (1, 2, 0, 1), (14, 1, 44, 3), (7, 3, 1, 3), (7, 4, 1, 3), (12, 5, 0, 3), (1, 3, 0, 1), (41, 0, 0, 1)]
def sc_234 : List sI := [(0, 0, 0, 1), (4, 2, 0, 1), (0, 0, 0, 1), (4, 3, 0, 1), (0, 1, 0, 1), (4, 4, 0, 2), (1, 4, 0, 2), (0, 9, 0, 2), (14, 4, 44, 3), (2, 0, 0, 1), (1, 1, 0, 1), (1, 4, 0, 2), (36, 233, 9299, 3), (4, 5, 0, 2), (1, 5, 0, 2), (1, 3, 0, 1), (14, 4, 32, 3), (12, 38, 0, 3), (1, 4, 0, 2), (4, 2, 0, 1), (1, 5, 0, 2), (4, 3, 0, 1), (7, 4, 1, 3), (12, 7, 0, 3), (1, 2, 0, 1), (41, 0, 0, 1)]
def sc_235 : List sI := [(1, 1, 0, 1), (0, 0, 0, 1), (2, 0, 0, 1), (8, 8, 0, 3), (36, 164, 17, 3), (0, 1, 0, 1), (16, 0, 0, 1), (36, 152, 51, 3), (13, 0, 26, 3), (1, 2, 0, 1), (0, 0, 0, 1), (0, 3, 0, 1), (36, 152, 51, 3), (13, 1, 28, 3), (0, 4294967295, 0, 1), (41, 0, 0, 1), (0, 0, 0, 1), (4, 3, 0, 1), (0, 0, 0, 1), (4, 4, 0, 2), (0, 0, 0, 1), (4, 5, 0, 2), (0, 0, 0, 1), (4, 6, 0, 2), (1, 6, 0, 2), (2, 0, 0, 1), (8, 8, 0, 3), (0, 3, 0, 1), (23, 0, 0, 1), (14, 3, 98, 3), (2, 0, 0, 1), (1, 6, 0, 2), (1, 1, 0, 1), (36, 232, 9267, 3), (13, 1, 63, 3), (12, 92, 0, 3), (2, 0, 0, 1), (8, 8, 0, 3), (1, 6, 0, 2), (36, 170, 34, 3), (4, 7, 0, 2), (7, 3, 1, 3), (1, 5, 0, 2), (1, 7, 0, 2), (15, 0, 0, 1), (4, 5, 0, 2), (1, 7, 0, 2), (13, 3, 92, 3), (7, 4, 1, 3), (7, 6, 1, 3), (12, 39, 0, 3), (1, 2, 0, 1), (13, 1, 106, 3), (1, 3, 0, 1), (12, 135, 0, 3), (1, 2, 0, 1), (0, 1, 0, 1), (14, 1, 116, 3), (1, 4, 0, 2), (12, 135, 0, 3), (1, 2, 0, 1), (0, 2, 0, 1), (14, 1, 130, 3), (1, 5, 0, 2), (0, 1000, 0, 3), (15, 0, 0, 1), (12, 135, 0, 3), (2, 0, 0, 1), (1, 1, 0, 1), (36, 234, 9314, 3), (41, 0, 0, 1)]
def sc_236 : List sI := [(0, 0, 0, 1), (4, 2, 0, 1), (0, 0, 0, 1), (4, 3, 0, 1), (1, 3, 0, 1), (2, 0, 0, 1), (8, 8, 0, 3), (36, 164, 17, 3), (14, 3, 33, 3), (2, 0, 0, 1), (1, 3, 0, 1), (1, 1, 0, 1), (36, 233, 9299, 3), (13, 5, 27, 3), (7, 2, 1, 3), (7, 3, 1, 3), (12, 4, 0, 3), (1, 2, 0, 1), (41, 0, 0, 1)]
def sc_237 : List sI := [(0, 0, 0, 1), (4, 2, 0, 1), (0, 0, 0, 1), (4, 3, 0, 1), (1, 3, 0, 1), (2, 0, 0, 1), (8, 8, 0, 3), (0, 3, 0, 1), (23, 0, 0, 1), (14, 3, 45, 3), (2, 0, 0, 1), (8, 8, 0, 3), (1, 3, 0, 1), (0, 2, 0, 1), (36, 155, 34, 3), (23, 0, 0, 1), (1, 1, 0, 1), (14, 1, 39, 3), (1, 2, 0, 1), (2, 0, 0, 1), (8, 8, 0, 3), (1, 3, 0, 1), (36, 170, 34, 3), (15, 0, 0, 1), (4, 2, 0, 1), (7, 3, 1, 3), (12, 4, 0, 3), (1, 2, 0, 1), (41, 0, 0, 1)]
def sc_238 : List sI := [(1, 1, 0, 1), (0, 1, 0, 1), (0, 9, 0, 2), (36, 152, 51, 3), (13, 1, 12, 3), (0, 4294967295, 0, 1), (41, 0, 0, 1), (1, 2, 0, 1), (46, 13, 0, 27), (2, 0, 0, 1), (1, 1, 0, 1), (36, 225, 9282, 3), (41, 0, 0, 1), (2, 0, 0, 1), (1, 1, 0, 1), (36, 236, 9282, 3), (41, 0, 0, 1), (2, 0, 0, 1), (1, 1, 0, 1), (36, 237, 9282, 3), (0, 1000, 0, 3), (15, 0, 0, 1), (41, 0, 0, 1), (0, 4294967295, 0, 1), (41, 0, 0, 1)]
def sc_239 : List sI := [(1, 1, 0, 1), (13, 3, 6, 3), (0, 4294967295, 0, 1), (41, 0, 0, 1), (0, 0, 0, 1), (4, 2, 0, 1), (1, 2, 0, 1), (2, 0, 0, 1), (8, 8, 0, 3), (0, 3, 0, 1), (23, 0, 0, 1), (14, 3, 35, 3), (2, 0, 0, 1), (1, 2, 0, 1), (36, 228, 9314, 3), (1, 1, 0, 1), (14, 1, 29, 3), (1, 2, 0, 1), (41, 0, 0, 1), (7, 2, 1, 3), (12, 8, 0, 3), (0, 4294967294, 0, 2), (41, 0, 0, 1)]
def sc_240 : List sI := [(2, 0, 0, 1), (1, 1, 0, 1), (1, 2, 0, 1), (36, 158, 9267, 3), (13, 0, 29, 3), (1, 3, 0, 1), (36, 159, 17, 3), (13, 0, 29, 3), (2, 0, 0, 1), (8, 8, 0, 3), (1, 1, 0, 1), (1, 2, 0, 1), (1, 3, 0, 1), (36, 176, 68, 3), (12, 30, 0, 3), (0, 4294967295, 0, 1), (41, 0, 0, 1)]
def sc_241 : List sI := [(2, 0, 0, 1), (1, 1, 0, 1), (36, 156, 9250, 3), (13, 0, 28, 3), (2, 0, 0, 1), (1, 2, 0, 1), (36, 157, 9250, 3), (13, 0, 28, 3), (2, 0, 0, 1), (8, 8, 0, 3), (1, 1, 0, 1), (1, 2, 0, 1), (36, 177, 51, 3), (12, 29, 0, 3), (0, 4294967295, 0, 1), (41, 0, 0, 1)]
def sc_242 : List sI := [(2, 0, 0, 1), (1, 1, 0, 1), (36, 156, 9250, 3), (13, 0, 31, 3), (2, 0, 0, 1), (1, 2, 0, 1), (36, 157, 9250, 3), (13, 0, 31, 3), (2, 0, 0, 1), (8, 8, 0, 3), (1, 1, 0, 1), (1, 2, 0, 1), (36, 169, 83, 3), (0, 100, 0, 2), (15, 0, 0, 1), (12, 32, 0, 3), (0, 4294967295, 0, 1), (41, 0, 0, 1)]
def sc_243 : List sI := [(2, 0, 0, 1), (1, 1, 0, 1), (1, 2, 0, 1), (36, 158, 9267, 3), (13, 1, 11, 3), (0, 4294967295, 0, 1), (41, 0, 0, 1), (1, 3, 0, 1), (46, 12, 0, 28), (2, 0, 0, 1), (8, 8, 0, 3), (1, 1, 0, 1), (1, 2, 0, 1), (1, 1, 0, 1), (36, 175, 100, 3), (0, 100, 0, 2), (15, 0, 0, 1), (41, 0, 0, 1), (2, 0, 0, 1), (8, 8, 0, 3), (1, 1, 0, 1), (1, 2, 0, 1), (1, 2, 0, 1), (36, 175, 100, 3), (0, 100, 0, 2), (15, 0, 0, 1), (41, 0, 0, 1), (2, 0, 0, 1), (8, 8, 0, 3), (36, 171, 49, 3), (2, 0, 0, 1), (8, 8, 0, 3), (1, 1, 0, 1), (1, 2, 0, 1), (36, 181, 83, 3), (15, 0, 0, 1), (0, 1000, 0, 3), (15, 0, 0, 1), (41, 0, 0, 1), (0, 4294967295, 0, 1), (41, 0, 0, 1)]
def sc_244 : List sI := [(2, 0, 0, 1), (1, 1, 0, 1), (1, 2, 0, 1), (36, 158, 9267, 3), (13, 1, 11, 3), (0, 4294967295, 0, 1), (41, 0, 0, 1), (0, 0, 0, 1), (4, 3, 0, 1), (1, 3, 0, 1), (0, 9, 0, 2), (14, 4, 40, 3), (2, 0, 0, 1), (8, 8, 0, 3), (1, 1, 0, 1), (1, 2, 0, 1), (1, 3, 0, 1), (36, 176, 68, 3), (13, 1, 34, 3), (1, 3, 0, 1), (41, 0, 0, 1), (7, 3, 1, 3), (12, 13, 0, 3), (0, 4294967294, 0, 2), (41, 0, 0, 1)]
def sc_245 : List sI := [(2, 0, 0, 1), (1, 1, 0, 1), (36, 156, 9250, 3), (13, 1, 10, 3), (0, 4294967295, 0, 1), (41, 0, 0, 1), (0, 4294967294, 0, 2), (4, 2, 0, 1), (0, 0, 0, 1), (4, 3, 0, 1), (1, 3, 0, 1), (0, 4, 0, 1), (2, 0, 0, 1), (8, 8, 0, 3), (0, 0, 0, 1), (23, 0, 0, 1), (17, 0, 0, 1), (14, 3, 75, 3), (2, 0, 0, 1), (8, 8, 0, 3), (1, 1, 0, 1), (1, 3, 0, 1), (36, 177, 51, 3), (13, 5, 42, 3), (12, 69, 0, 3), (1, 2, 0, 1), (13, 2, 67, 3), (2, 0, 0, 1), (8, 8, 0, 3), (1, 1, 0, 1), (1, 3, 0, 1), (36, 169, 83, 3), (2, 0, 0, 1), (8, 8, 0, 3), (1, 1, 0, 1), (1, 2, 0, 1), (36, 169, 83, 3), (14, 5, 69, 3), (1, 3, 0, 1), (4, 2, 0, 1), (7, 3, 1, 3), (12, 15, 0, 3), (1, 2, 0, 1), (41, 0, 0, 1)]
def sc_246 : List sI := [(2, 0, 0, 1), (1, 1, 0, 1), (36, 156, 9250, 3), (13, 1, 10, 3), (0, 4294967295, 0, 1), (41, 0, 0, 1), (0, 4294967294, 0, 2), (4, 2, 0, 1), (0, 0, 0, 1), (4, 3, 0, 1), (0, 0, 0, 1), (4, 4, 0, 2), (1, 4, 0, 2), (2, 0, 0, 1), (8, 8, 0, 3), (0, 3, 0, 1), (23, 0, 0, 1), (14, 3, 86, 3), (1, 4, 0, 2), (1, 1, 0, 1), (14, 0, 80, 3), (2, 0, 0, 1), (8, 8, 0, 3), (1, 1, 0, 1), (1, 4, 0, 2), (0, 0, 0, 1), (36, 176, 68, 3), (13, 5, 52, 3), (12, 80, 0, 3), (2, 0, 0, 1), (8, 8, 0, 3), (1, 1, 0, 1), (1, 4, 0, 2), (1, 1, 0, 1), (36, 175, 100, 3), (4, 5, 0, 2), (1, 5, 0, 2), (1, 3, 0, 1), (14, 4, 74, 3), (12, 80, 0, 3), (1, 4, 0, 2), (4, 2, 0, 1), (1, 5, 0, 2), (4, 3, 0, 1), (7, 4, 1, 3), (12, 18, 0, 3), (1, 2, 0, 1), (41, 0, 0, 1)]
def sc_247 : List sI := [(0, 0, 0, 1), (4, 1, 0, 1), (0, 0, 0, 1), (4, 2, 0, 1), (1, 2, 0, 1), (2, 0, 0, 1), (8, 8, 0, 3), (0, 3, 0, 1), (23, 0, 0, 1), (14, 3, 102, 3), (1, 2, 0, 1), (0, 1, 0, 1), (15, 0, 0, 1), (4, 3, 0, 1), (1, 3, 0, 1), (2, 0, 0, 1), (8, 8, 0, 3), (0, 3, 0, 1), (23, 0, 0, 1), (14, 3, 96, 3), (1, 2, 0, 1), (0, 1, 0, 1), (15, 0, 0, 1), (4, 4, 0, 2), (1, 4, 0, 2), (2, 0, 0, 1), (8, 8, 0, 3), (0, 3, 0, 1), (23, 0, 0, 1), (14, 3, 90, 3), (1, 4, 0, 2), (1, 3, 0, 1), (14, 0, 84, 3), (2, 0, 0, 1), (8, 8, 0, 3), (1, 2, 0, 1), (1, 3, 0, 1), (1, 4, 0, 2), (36, 179, 68, 3), (13, 5, 67, 3), (12, 84, 0, 3), (2, 0, 0, 1), (8, 8, 0, 3), (1, 2, 0, 1), (1, 3, 0, 1), (1, 4, 0, 2), (36, 180, 68, 3), (13, 5, 84, 3), (7, 1, 1, 3), (7, 4, 1, 3), (12, 33, 0, 3), (7, 3, 1, 3), (12, 18, 0, 3), (7, 2, 1, 3), (12, 4, 0, 3), (1, 1, 0, 1), (41, 0, 0, 1)]
def sc_248 : List sI := [(1, 1, 0, 1), (0, 0, 0, 1), (0, 2, 0, 1), (36, 152, 51, 3), (13, 1, 11, 3), (0, 4294967295, 0, 1), (41, 0, 0, 1), (2, 0, 0, 1), (36, 154, 9233, 3), (2, 0, 0, 1), (8, 8, 2, 3), (36, 183, 49, 3), (4, 2, 0, 1), (1, 1, 0, 1), (13, 1, 31, 3), (1, 2, 0, 1), (12, 57, 0, 3), (1, 1, 0, 1), (0, 1, 0, 1), (14, 1, 50, 3), (2, 0, 0, 1), (8, 8, 2, 3), (36, 171, 49, 3), (0, 10000, 0, 3), (15, 0, 0, 1), (12, 57, 0, 3), (2, 0, 0, 1), (8, 8, 2, 3), (36, 172, 49, 3), (41, 0, 0, 1)]
def sc_249 : List sI := [(1, 1, 0, 1), (0, 0, 0, 1), (2, 0, 0, 1), (8, 8, 0, 3), (0, 0, 0, 1), (23, 0, 0, 1), (36, 152, 51, 3), (13, 0, 25, 3), (2, 0, 0, 1), (8, 8, 0, 3), (1, 1, 0, 1), (36, 212, 66, 3), (12, 26, 0, 3), (0, 4294967295, 0, 1), (41, 0, 0, 1)]
def sc_250 : List sI := [(1, 1, 0, 1), (13, 2, 13, 3), (1, 2, 0, 1), (0, 0, 0, 1), (0, 2, 0, 1), (36, 152, 51, 3), (13, 1, 15, 3), (0, 4294967295, 0, 1), (41, 0, 0, 1), (1, 1, 0, 1), (2, 0, 0, 1), (8, 8, 0, 3), (0, 209, 0, 3), (23, 0, 0, 1), (14, 3, 44, 3), (2, 0, 0, 1), (8, 8, 0, 3), (0, 210, 0, 3), (0, 3, 0, 1), (1, 1, 0, 1), (17, 0, 0, 1), (15, 0, 0, 1), (1, 2, 0, 1), (15, 0, 0, 1), (23, 0, 0, 1), (12, 46, 0, 3), (0, 4294967294, 0, 2), (41, 0, 0, 1)]
def sc_251 : List sI := [(2, 0, 0, 1), (8, 8, 0, 3), (0, 3, 0, 1), (23, 0, 0, 1), (47, 6, 1, 1), (0, 4, 0, 1), (2, 0, 0, 1), (8, 8, 0, 3), (0, 0, 0, 1), (23, 0, 0, 1), (17, 0, 0, 1), (47, 15, 1, 1), (47, 16, 2, 1), (44, 0, 0, 1)]
def sc_252 : List sI := [(2, 0, 0, 1), (8, 8, 0, 3), (0, 3, 0, 1), (23, 0, 0, 1), (13, 1, 13, 3), (47, 9, 0, 1), (12, 29, 0, 3), (2, 0, 0, 1), (8, 8, 0, 3), (36, 171, 49, 3), (47, 20, 1, 1), (2, 0, 0, 1), (8, 8, 0, 3), (0, 3, 0, 1), (23, 0, 0, 1), (47, 27, 1, 1), (47, 28, 2, 1), (45, 0, 0, 1)]
def sc_253 : List sI := [(2, 0, 0, 1), (8, 8, 16, 3), (2, 0, 0, 1), (8, 8, 17, 3), (1, 1, 0, 1), (26, 0, 0, 1), (2, 0, 0, 1), (33, 0, 0, 1), (8, 8, 17, 3), (0, 1, 0, 1), (15, 0, 0, 1), (9, 8, 17, 3), (40, 0, 0, 1)]
def sc_254 : List sI := [(1, 1, 0, 1), (2, 0, 0, 1), (8, 8, 17, 3), (14, 3, 17, 3), (2, 0, 0, 1), (8, 8, 16, 3), (1, 1, 0, 1), (23, 0, 0, 1), (12, 19, 0, 3), (0, 4294967294, 0, 2), (41, 0, 0, 1)]
def sc_255 : List sI := [(2, 0, 0, 1), (0, 0, 0, 1), (9, 8, 17, 3), (0, 0, 0, 1), (4, 1, 0, 1), (1, 1, 0, 1), (2, 0, 0, 1), (8, 8, 0, 3), (0, 0, 0, 1), (23, 0, 0, 1), (14, 3, 90, 3), (2, 0, 0, 1), (1, 1, 0, 1), (2, 0, 0, 1), (8, 8, 0, 3), (0, 1, 0, 1), (23, 0, 0, 1), (14, 3, 33, 3), (0, 61, 0, 2), (12, 35, 0, 3), (0, 45, 0, 2), (36, 253, 9250, 3), (2, 0, 0, 1), (1, 1, 0, 1), (36, 163, 17, 3), (13, 0, 51, 3), (0, 62, 0, 2), (12, 53, 0, 3), (0, 60, 0, 2), (36, 253, 9250, 3), (0, 0, 0, 1), (4, 2, 0, 1), (1, 2, 0, 1), (0, 4, 0, 1), (14, 3, 78, 3), (2, 0, 0, 1), (0, 4, 0, 1), (1, 1, 0, 1), (17, 0, 0, 1), (1, 2, 0, 1), (15, 0, 0, 1), (36, 256, 9266, 3), (7, 2, 1, 3), (12, 58, 0, 3), (2, 0, 0, 1), (0, 10, 0, 2), (36, 253, 9250, 3), (7, 1, 1, 3), (12, 7, 0, 3), (40, 0, 0, 1)]
def sc_256 : List sI := [(2, 0, 0, 1), (8, 8, 0, 3), (1, 1, 0, 1), (36, 165, 50, 3), (4, 2, 0, 1), (1, 2, 0, 1), (13, 3, 22, 3), (2, 0, 0, 1), (0, 46, 0, 2), (36, 253, 9250, 3), (12, 60, 0, 3), (2, 0, 0, 1), (2, 0, 0, 1), (8, 8, 0, 3), (1, 2, 0, 1), (0, 9, 0, 2), (36, 155, 34, 3), (23, 0, 0, 1), (0, 0, 0, 1), (36, 200, 66, 3), (2, 0, 0, 1), (8, 8, 0, 3), (1, 2, 0, 1), (36, 170, 34, 3), (13, 3, 54, 3), (0, 64, 0, 2), (12, 56, 0, 3), (0, 96, 0, 2), (15, 0, 0, 1), (36, 253, 9250, 3), (40, 0, 0, 1)]
def sc_257 : List sI := [(2, 0, 0, 1), (36, 255, 9265, 3), (2, 0, 0, 1), (8, 8, 17, 3), (41, 0, 0, 1)]
def sc_258 : List sI := [(1, 1, 0, 1), (13, 3, 6, 3), (0, 4294967295, 0, 1), (41, 0, 0, 1), (2, 0, 0, 1), (36, 255, 9265, 3), (2, 0, 0, 1), (1, 1, 0, 1), (36, 254, 9250, 3), (41, 0, 0, 1)]
def sc_259 : List sI := [(1, 1, 0, 1), (0, 9, 0, 2), (14, 5, 17, 3), (2, 0, 0, 1), (0, 48, 0, 2), (1, 1, 0, 1), (0, 10, 0, 2), (18, 0, 0, 1), (15, 0, 0, 1), (36, 253, 9250, 3), (2, 0, 0, 1), (0, 48, 0, 2), (1, 1, 0, 1), (0, 10, 0, 2), (19, 0, 0, 1), (15, 0, 0, 1), (36, 253, 9250, 3), (40, 0, 0, 1)]
def sc_260 : List sI := [(2, 0, 0, 1), (0, 32, 0, 2), (36, 253, 9250, 3), (2, 0, 0, 1), (1, 1, 0, 1), (36, 259, 9250, 3), (40, 0, 0, 1)]
def sc_261 : List sI := [(0, 0, 0, 1), (4, 2, 0, 1), (1, 2, 0, 1), (1, 1, 0, 1), (36, 199, 49, 3), (14, 3, 28, 3), (2, 0, 0, 1), (0, 96, 0, 2), (1, 1, 0, 1), (1, 2, 0, 1), (36, 200, 66, 3), (15, 0, 0, 1), (36, 253, 9250, 3), (7, 2, 1, 3), (12, 2, 0, 3), (40, 0, 0, 1)]
def sc_262 : List sI := [(1, 2, 0, 1), (13, 1, 5, 3), (40, 0, 0, 1), (2, 0, 0, 1), (0, 32, 0, 2), (36, 253, 9250, 3), (2, 0, 0, 1), (1, 1, 0, 1), (36, 261, 9266, 3), (2, 0, 0, 1), (1, 2, 0, 1), (36, 260, 9250, 3), (40, 0, 0, 1)]
def sc_263 : List sI := [(1, 2, 0, 1), (13, 1, 5, 3), (40, 0, 0, 1), (2, 0, 0, 1), (0, 32, 0, 2), (36, 253, 9250, 3), (2, 0, 0, 1), (1, 1, 0, 1), (36, 261, 9266, 3), (2, 0, 0, 1), (0, 32, 0, 2), (36, 253, 9250, 3), (2, 0, 0, 1), (1, 2, 0, 1), (13, 3, 32, 3), (0, 45, 0, 2), (12, 34, 0, 3), (0, 43, 0, 2), (36, 253, 9250, 3), (2, 0, 0, 1), (1, 2, 0, 1), (13, 3, 47, 3), (1, 2, 0, 1), (51, 0, 0, 1), (12, 48, 0, 3), (1, 2, 0, 1), (36, 259, 9250, 3), (40, 0, 0, 1)]
def sc_264 : List sI := [(2, 0, 0, 1), (48, 377669, 0, 2), (36, 261, 9266, 3), (2, 0, 0, 1), (2, 0, 0, 1), (8, 8, 0, 3), (1, 1, 0, 1), (0, 0, 0, 1), (36, 155, 34, 3), (23, 0, 0, 1), (36, 260, 9250, 3), (2, 0, 0, 1), (0, 32, 0, 2), (36, 253, 9250, 3), (2, 0, 0, 1), (2, 0, 0, 1), (8, 8, 0, 3), (1, 1, 0, 1), (0, 9, 0, 2), (36, 155, 34, 3), (23, 0, 0, 1), (36, 261, 9266, 3), (2, 0, 0, 1), (8, 8, 0, 3), (1, 1, 0, 1), (0, 1, 0, 1), (36, 155, 34, 3), (23, 0, 0, 1), (0, 1, 0, 1), (14, 1, 67, 3), (2, 0, 0, 1), (0, 32, 0, 2), (36, 253, 9250, 3), (2, 0, 0, 1), (48, 291828332, 0, 2), (36, 261, 9266, 3), (2, 0, 0, 1), (48, 86887672, 0, 2), (2, 0, 0, 1), (8, 8, 0, 3), (1, 1, 0, 1), (0, 2, 0, 1), (36, 155, 34, 3), (23, 0, 0, 1), (36, 262, 9267, 3), (2, 0, 0, 1), (48, 335086736, 0, 2), (2, 0, 0, 1), (8, 8, 0, 3), (1, 1, 0, 1), (0, 3, 0, 1), (36, 155, 34, 3), (23, 0, 0, 1), (36, 263, 9267, 3), (2, 0, 0, 1), (48, 692581, 0, 2), (2, 0, 0, 1), (8, 8, 0, 3), (1, 1, 0, 1), (0, 4, 0, 1), (36, 155, 34, 3), (23, 0, 0, 1), (36, 263, 9267, 3), (2, 0, 0, 1), (8, 8, 0, 3), (1, 1, 0, 1), (0, 5, 0, 1), (36, 155, 34, 3), (23, 0, 0, 1), (13, 4, 142, 3), (2, 0, 0, 1), (8, 8, 0, 3), (1, 1, 0, 1), (0, 6, 0, 2), (36, 155, 34, 3), (23, 0, 0, 1), (13, 5, 184, 3), (2, 0, 0, 1), (0, 32, 0, 2), (36, 253, 9250, 3), (2, 0, 0, 1), (0, 13550, 0, 3), (36, 261, 9266, 3), (2, 0, 0, 1), (2, 0, 0, 1), (8, 8, 0, 3), (1, 1, 0, 1), (0, 5, 0, 1), (36, 155, 34, 3), (23, 0, 0, 1), (36, 260, 9250, 3), (2, 0, 0, 1), (2, 0, 0, 1), (8, 8, 0, 3), (1, 1, 0, 1), (0, 6, 0, 2), (36, 155, 34, 3), (23, 0, 0, 1), (36, 260, 9250, 3), (2, 0, 0, 1), (2, 0, 0, 1), (8, 8, 0, 3), (1, 1, 0, 1), (0, 7, 0, 2), (36, 155, 34, 3), (23, 0, 0, 1), (36, 265, 9250, 3), (2, 0, 0, 1), (8, 8, 0, 3), (1, 1, 0, 1), (0, 8, 0, 2), (36, 155, 34, 3), (23, 0, 0, 1), (0, 99, 0, 2), (14, 3, 232, 3), (2, 0, 0, 1), (48, 388978, 0, 2), (2, 0, 0, 1), (8, 8, 0, 3), (1, 1, 0, 1), (0, 8, 0, 2), (36, 155, 34, 3), (23, 0, 0, 1), (36, 262, 9267, 3), (2, 0, 0, 1), (0, 59, 0, 2), (36, 253, 9250, 3), (40, 0, 0, 1)]
def sc_265 : List sI := [(1, 1, 0, 1), (13, 1, 5, 3), (40, 0, 0, 1), (2, 0, 0, 1), (0, 32, 0, 2), (36, 253, 9250, 3), (2, 0, 0, 1), (48, 284954995, 0, 2), (36, 261, 9266, 3), (2, 0, 0, 1), (0, 32, 0, 2), (36, 253, 9250, 3), (1, 1, 0, 1), (0, 99, 0, 2), (14, 5, 40, 3), (2, 0, 0, 1), (0, 48, 0, 2), (1, 1, 0, 1), (0, 100, 0, 2), (18, 0, 0, 1), (15, 0, 0, 1), (36, 253, 9250, 3), (1, 1, 0, 1), (0, 9, 0, 2), (14, 5, 60, 3), (2, 0, 0, 1), (0, 48, 0, 2), (1, 1, 0, 1), (0, 10, 0, 2), (18, 0, 0, 1), (0, 10, 0, 2), (19, 0, 0, 1), (15, 0, 0, 1), (36, 253, 9250, 3), (2, 0, 0, 1), (0, 48, 0, 2), (1, 1, 0, 1), (0, 10, 0, 2), (19, 0, 0, 1), (15, 0, 0, 1), (36, 253, 9250, 3), (40, 0, 0, 1)]
def sc_266 : List sI := [(2, 0, 0, 1), (0, 0, 0, 1), (9, 8, 17, 3), (2, 0, 0, 1), (48, 10984100, 0, 2), (36, 261, 9266, 3), (2, 0, 0, 1), (2, 0, 0, 1), (8, 8, 0, 3), (0, 0, 0, 1), (23, 0, 0, 1), (36, 260, 9250, 3), (2, 0, 0, 1), (0, 32, 0, 2), (36, 253, 9250, 3), (2, 0, 0, 1), (48, 3379448, 0, 2), (36, 261, 9266, 3), (2, 0, 0, 1), (2, 0, 0, 1), (8, 8, 0, 3), (0, 1, 0, 1), (23, 0, 0, 1), (36, 260, 9250, 3), (2, 0, 0, 1), (0, 59, 0, 2), (36, 253, 9250, 3), (0, 0, 0, 1), (4, 1, 0, 1), (1, 1, 0, 1), (2, 0, 0, 1), (8, 8, 0, 3), (0, 3, 0, 1), (23, 0, 0, 1), (14, 3, 72, 3), (2, 0, 0, 1), (1, 1, 0, 1), (36, 264, 9250, 3), (7, 1, 1, 3), (12, 51, 0, 3), (40, 0, 0, 1)]
def sc_267 : List sI := [(2, 0, 0, 1), (36, 266, 9249, 3), (2, 0, 0, 1), (8, 8, 17, 3), (41, 0, 0, 1)]
def sc_268 : List sI := [(1, 1, 0, 1), (13, 3, 6, 3), (0, 4294967295, 0, 1), (41, 0, 0, 1), (2, 0, 0, 1), (36, 266, 9249, 3), (2, 0, 0, 1), (1, 1, 0, 1), (36, 254, 9250, 3), (41, 0, 0, 1)]
def sc_269 : List sI := [(1, 0, 0, 1), (1, 1, 0, 1), (19, 0, 0, 1), (4, 2, 0, 1), (1, 0, 0, 1), (1, 1, 0, 1), (22, 0, 0, 1), (13, 3, 18, 3), (1, 2, 0, 1), (13, 0, 18, 3), (1, 2, 0, 1), (1, 1, 0, 1), (15, 0, 0, 1), (41, 0, 0, 1), (1, 2, 0, 1), (41, 0, 0, 1)]
def sc_270 : List sI := [(1, 0, 0, 1), (13, 3, 9, 3), (1, 0, 0, 1), (51, 0, 0, 1), (12, 10, 0, 3), (1, 0, 0, 1), (41, 0, 0, 1)]
def sc_271 : List sI := [(30, 7, 0, 3), (33, 0, 0, 1), (36, 107, 8225, 3), (5, 1, 0, 1), (30, 8, 0, 3), (33, 0, 0, 1), (36, 151, 9233, 3), (5, 2, 0, 1), (0, 0, 0, 1), (4, 3, 0, 1), (1, 3, 0, 1), (2, 0, 0, 1), (29, 0, 0, 1), (0, 6, 0, 2), (16, 0, 0, 1), (14, 4, 1293, 3), (2, 0, 0, 1), (1, 3, 0, 1), (23, 0, 0, 1), (0, 63, 0, 2), (20, 0, 0, 1), (46, 33, 0, 171), (2, 1, 0, 1), (2, 0, 0, 1), (1, 3, 0, 1), (0, 1, 0, 1), (15, 0, 0, 1), (23, 0, 0, 1), (2, 0, 0, 1), (1, 3, 0, 1), (0, 2, 0, 1), (15, 0, 0, 1), (23, 0, 0, 1), (2, 0, 0, 1), (1, 3, 0, 1), (0, 3, 0, 1), (15, 0, 0, 1), (23, 0, 0, 1), (2, 0, 0, 1), (1, 3, 0, 1), (0, 4, 0, 1), (15, 0, 0, 1), (23, 0, 0, 1), (2, 0, 0, 1), (1, 3, 0, 1), (0, 5, 0, 1), (15, 0, 0, 1), (23, 0, 0, 1), (36, 108, 8294, 3), (2, 2, 0, 1), (2, 0, 0, 1), (1, 3, 0, 1), (0, 1, 0, 1), (15, 0, 0, 1), (23, 0, 0, 1), (2, 0, 0, 1), (1, 3, 0, 1), (0, 2, 0, 1), (15, 0, 0, 1), (23, 0, 0, 1), (2, 0, 0, 1), (1, 3, 0, 1), (0, 3, 0, 1), (15, 0, 0, 1), (23, 0, 0, 1), (2, 0, 0, 1), (1, 3, 0, 1), (0, 4, 0, 1), (15, 0, 0, 1), (23, 0, 0, 1), (2, 0, 0, 1), (1, 3, 0, 1), (0, 5, 0, 1), (15, 0, 0, 1), (23, 0, 0, 1), (36, 184, 9350, 3), (14, 0, 1287, 3), (0, 0, 0, 1), (42, 0, 0, 1), (2, 1, 0, 1), (2, 0, 0, 1), (1, 3, 0, 1), (0, 1, 0, 1), (15, 0, 0, 1), (23, 0, 0, 1), (36, 109, 8226, 3), (35, 0, 0, 1), (2, 2, 0, 1), (2, 0, 0, 1), (1, 3, 0, 1), (0, 1, 0, 1), (15, 0, 0, 1), (23, 0, 0, 1), (36, 185, 9250, 3), (35, 0, 0, 1), (12, 1287, 0, 3), (2, 1, 0, 1), (36, 110, 8241, 3), (35, 0, 0, 1), (2, 2, 0, 1), (36, 203, 9249, 3), (35, 0, 0, 1), (12, 1287, 0, 3), (2, 1, 0, 1), (36, 111, 8209, 3), (35, 0, 0, 1), (2, 2, 0, 1), (36, 186, 9233, 3), (35, 0, 0, 1), (12, 1287, 0, 3), (2, 1, 0, 1), (2, 0, 0, 1), (1, 3, 0, 1), (0, 1, 0, 1), (15, 0, 0, 1), (23, 0, 0, 1), (2, 0, 0, 1), (1, 3, 0, 1), (0, 2, 0, 1), (15, 0, 0, 1), (23, 0, 0, 1), (2, 0, 0, 1), (1, 3, 0, 1), (0, 3, 0, 1), (15, 0, 0, 1), (23, 0, 0, 1), (2, 0, 0, 1), (1, 3, 0, 1), (0, 4, 0, 1), (15, 0, 0, 1), (23, 0, 0, 1), (2, 0, 0, 1), (1, 3, 0, 1), (0, 5, 0, 1), (15, 0, 0, 1), (23, 0, 0, 1), (36, 112, 8310, 3), (35, 0, 0, 1), (2, 2, 0, 1), (2, 0, 0, 1), (1, 3, 0, 1), (0, 1, 0, 1), (15, 0, 0, 1), (23, 0, 0, 1), (2, 0, 0, 1), (1, 3, 0, 1), (0, 2, 0, 1), (15, 0, 0, 1), (23, 0, 0, 1), (2, 0, 0, 1), (1, 3, 0, 1), (0, 3, 0, 1), (15, 0, 0, 1), (23, 0, 0, 1), (2, 0, 0, 1), (1, 3, 0, 1), (0, 4, 0, 1), (15, 0, 0, 1), (23, 0, 0, 1), (2, 0, 0, 1), (1, 3, 0, 1), (0, 5, 0, 1), (15, 0, 0, 1), (23, 0, 0, 1), (36, 208, 9350, 3), (35, 0, 0, 1), (12, 1287, 0, 3), (2, 1, 0, 1), (2, 0, 0, 1), (1, 3, 0, 1), (0, 1, 0, 1), (15, 0, 0, 1), (23, 0, 0, 1), (2, 0, 0, 1), (1, 3, 0, 1), (0, 2, 0, 1), (15, 0, 0, 1), (23, 0, 0, 1), (2, 0, 0, 1), (1, 3, 0, 1), (0, 3, 0, 1), (15, 0, 0, 1), (23, 0, 0, 1), (36, 113, 8308, 3), (35, 0, 0, 1), (2, 2, 0, 1), (2, 0, 0, 1), (1, 3, 0, 1), (0, 1, 0, 1), (15, 0, 0, 1), (23, 0, 0, 1), (2, 0, 0, 1), (1, 3, 0, 1), (0, 2, 0, 1), (15, 0, 0, 1), (23, 0, 0, 1), (2, 0, 0, 1), (1, 3, 0, 1), (0, 3, 0, 1), (15, 0, 0, 1), (23, 0, 0, 1), (36, 211, 9300, 3), (35, 0, 0, 1), (12, 1287, 0, 3), (2, 1, 0, 1), (2, 0, 0, 1), (1, 3, 0, 1), (0, 1, 0, 1), (15, 0, 0, 1), (23, 0, 0, 1), (36, 114, 8242, 3), (35, 0, 0, 1), (2, 2, 0, 1), (2, 0, 0, 1), (1, 3, 0, 1), (0, 1, 0, 1), (15, 0, 0, 1), (23, 0, 0, 1), (36, 213, 9266, 3), (35, 0, 0, 1), (12, 1287, 0, 3), (2, 1, 0, 1), (2, 0, 0, 1), (1, 3, 0, 1), (0, 1, 0, 1), (15, 0, 0, 1), (23, 0, 0, 1), (2, 0, 0, 1), (1, 3, 0, 1), (0, 2, 0, 1), (15, 0, 0, 1), (23, 0, 0, 1), (2, 0, 0, 1), (1, 3, 0, 1), (0, 3, 0, 1), (15, 0, 0, 1), (23, 0, 0, 1), (36, 115, 8292, 3), (35, 0, 0, 1), (2, 2, 0, 1), (2, 0, 0, 1), (1, 3, 0, 1), (0, 1, 0, 1), (15, 0, 0, 1), (23, 0, 0, 1), (2, 0, 0, 1), (1, 3, 0, 1), (0, 2, 0, 1), (15, 0, 0, 1), (23, 0, 0, 1), (2, 0, 0, 1), (1, 3, 0, 1), (0, 3, 0, 1), (15, 0, 0, 1), (23, 0, 0, 1), (36, 214, 9316, 3), (35, 0, 0, 1), (12, 1287, 0, 3), (2, 1, 0, 1), (2, 0, 0, 1), (1, 3, 0, 1), (0, 1, 0, 1), (15, 0, 0, 1), (23, 0, 0, 1), (2, 0, 0, 1), (1, 3, 0, 1), (0, 2, 0, 1), (15, 0, 0, 1), (23, 0, 0, 1), (36, 116, 8275, 3), (35, 0, 0, 1), (2, 2, 0, 1), (2, 0, 0, 1), (1, 3, 0, 1), (0, 1, 0, 1), (15, 0, 0, 1), (23, 0, 0, 1), (2, 0, 0, 1), (1, 3, 0, 1), (0, 2, 0, 1), (15, 0, 0, 1), (23, 0, 0, 1), (36, 215, 9315, 3), (35, 0, 0, 1), (12, 1287, 0, 3), (2, 1, 0, 1), (2, 0, 0, 1), (1, 3, 0, 1), (0, 1, 0, 1), (15, 0, 0, 1), (23, 0, 0, 1), (2, 0, 0, 1), (1, 3, 0, 1), (0, 2, 0, 1), (15, 0, 0, 1), (23, 0, 0, 1), (2, 0, 0, 1), (1, 3, 0, 1), (0, 3, 0, 1), (15, 0, 0, 1), (23, 0, 0, 1), (36, 117, 8292, 3), (35, 0, 0, 1), (2, 2, 0, 1), (2, 0, 0, 1), (1, 3, 0, 1), (0, 1, 0, 1), (15, 0, 0, 1), (23, 0, 0, 1), (2, 0, 0, 1), (1, 3, 0, 1), (0, 2, 0, 1), (15, 0, 0, 1), (23, 0, 0, 1), (2, 0, 0, 1), (1, 3, 0, 1), (0, 3, 0, 1), (15, 0, 0, 1), (23, 0, 0, 1), (36, 216, 9316, 3), (35, 0, 0, 1), (12, 1287, 0, 3), (2, 1, 0, 1), (36, 118, 8241, 3), (35, 0, 0, 1), (2, 2, 0, 1), (36, 217, 9265, 3), (35, 0, 0, 1), (12, 1287, 0, 3), (2, 1, 0, 1), (2, 0, 0, 1), (1, 3, 0, 1), (0, 1, 0, 1), (15, 0, 0, 1), (23, 0, 0, 1), (36, 119, 8258, 3), (35, 0, 0, 1), (2, 2, 0, 1), (2, 0, 0, 1), (1, 3, 0, 1), (0, 1, 0, 1), (15, 0, 0, 1), (23, 0, 0, 1), (36, 220, 9282, 3), (35, 0, 0, 1), (12, 1287, 0, 3), (2, 1, 0, 1), (2, 0, 0, 1), (1, 3, 0, 1), (0, 1, 0, 1), (15, 0, 0, 1), (23, 0, 0, 1), (36, 120, 8226, 3), (35, 0, 0, 1), (2, 2, 0, 1), (2, 0, 0, 1), (1, 3, 0, 1), (0, 1, 0, 1), (15, 0, 0, 1), (23, 0, 0, 1), (36, 221, 9250, 3), (35, 0, 0, 1), (12, 1287, 0, 3), (2, 1, 0, 1), (2, 0, 0, 1), (1, 3, 0, 1), (0, 1, 0, 1), (15, 0, 0, 1), (23, 0, 0, 1), (36, 121, 8226, 3), (35, 0, 0, 1), (2, 2, 0, 1), (2, 0, 0, 1), (1, 3, 0, 1), (0, 1, 0, 1), (15, 0, 0, 1), (23, 0, 0, 1), (36, 222, 9250, 3), (35, 0, 0, 1), (12, 1287, 0, 3), (2, 1, 0, 1), (36, 122, 8209, 3), (35, 0, 0, 1), (2, 2, 0, 1), (36, 223, 9233, 3), (35, 0, 0, 1), (12, 1287, 0, 3), (2, 1, 0, 1), (2, 0, 0, 1), (1, 3, 0, 1), (0, 1, 0, 1), (15, 0, 0, 1), (23, 0, 0, 1), (36, 123, 8226, 3), (35, 0, 0, 1), (2, 2, 0, 1), (2, 0, 0, 1), (1, 3, 0, 1), (0, 1, 0, 1), (15, 0, 0, 1), (23, 0, 0, 1), (36, 227, 9250, 3), (35, 0, 0, 1), (12, 1287, 0, 3), (2, 1, 0, 1), (2, 0, 0, 1), (1, 3, 0, 1), (0, 1, 0, 1), (15, 0, 0, 1), (23, 0, 0, 1), (2, 0, 0, 1), (1, 3, 0, 1), (0, 2, 0, 1), (15, 0, 0, 1), (23, 0, 0, 1), (36, 124, 8259, 3), (35, 0, 0, 1), (2, 2, 0, 1), (2, 0, 0, 1), (1, 3, 0, 1), (0, 1, 0, 1), (15, 0, 0, 1), (23, 0, 0, 1), (2, 0, 0, 1), (1, 3, 0, 1), (0, 2, 0, 1), (15, 0, 0, 1), (23, 0, 0, 1), (36, 229, 9283, 3), (35, 0, 0, 1), (12, 1287, 0, 3), (2, 1, 0, 1), (2, 0, 0, 1), (1, 3, 0, 1), (0, 1, 0, 1), (15, 0, 0, 1), (23, 0, 0, 1), (2, 0, 0, 1), (1, 3, 0, 1), (0, 2, 0, 1), (15, 0, 0, 1), (23, 0, 0, 1), (36, 125, 8259, 3), (35, 0, 0, 1), (2, 2, 0, 1), (2, 0, 0, 1), (1, 3, 0, 1), (0, 1, 0, 1), (15, 0, 0, 1), (23, 0, 0, 1), (2, 0, 0, 1), (1, 3, 0, 1), (0, 2, 0, 1), (15, 0, 0, 1), (23, 0, 0, 1), (36, 230, 9283, 3), (35, 0, 0, 1), (12, 1287, 0, 3), (2, 1, 0, 1), (2, 0, 0, 1), (1, 3, 0, 1), (0, 1, 0, 1), (15, 0, 0, 1), (23, 0, 0, 1), (36, 126, 8226, 3), (35, 0, 0, 1), (2, 2, 0, 1), (2, 0, 0, 1), (1, 3, 0, 1), (0, 1, 0, 1), (15, 0, 0, 1), (23, 0, 0, 1), (36, 231, 9250, 3), (35, 0, 0, 1), (12, 1287, 0, 3), (2, 1, 0, 1), (2, 0, 0, 1), (1, 3, 0, 1), (0, 1, 0, 1), (15, 0, 0, 1), (23, 0, 0, 1), (2, 0, 0, 1), (1, 3, 0, 1), (0, 2, 0, 1), (15, 0, 0, 1), (23, 0, 0, 1), (36, 127, 8243, 3), (35, 0, 0, 1), (2, 2, 0, 1), (2, 0, 0, 1), (1, 3, 0, 1), (0, 1, 0, 1), (15, 0, 0, 1), (23, 0, 0, 1), (2, 0, 0, 1), (1, 3, 0, 1), (0, 2, 0, 1), (15, 0, 0, 1), (23, 0, 0, 1), (36, 235, 9347, 3), (35, 0, 0, 1), (12, 1287, 0, 3), (2, 1, 0, 1), (2, 0, 0, 1), (1, 3, 0, 1), (0, 1, 0, 1), (15, 0, 0, 1), (23, 0, 0, 1), (2, 0, 0, 1), (1, 3, 0, 1), (0, 2, 0, 1), (15, 0, 0, 1), (23, 0, 0, 1), (36, 128, 8243, 3), (35, 0, 0, 1), (2, 2, 0, 1), (2, 0, 0, 1), (1, 3, 0, 1), (0, 1, 0, 1), (15, 0, 0, 1), (23, 0, 0, 1), (2, 0, 0, 1), (1, 3, 0, 1), (0, 2, 0, 1), (15, 0, 0, 1), (23, 0, 0, 1), (36, 238, 9267, 3), (35, 0, 0, 1), (12, 1287, 0, 3), (2, 1, 0, 1), (2, 0, 0, 1), (1, 3, 0, 1), (0, 1, 0, 1), (15, 0, 0, 1), (23, 0, 0, 1), (36, 129, 8226, 3), (35, 0, 0, 1), (2, 2, 0, 1), (2, 0, 0, 1), (1, 3, 0, 1), (0, 1, 0, 1), (15, 0, 0, 1), (23, 0, 0, 1), (36, 239, 9266, 3), (35, 0, 0, 1), (12, 1287, 0, 3), (2, 1, 0, 1), (2, 0, 0, 1), (1, 3, 0, 1), (0, 1, 0, 1), (15, 0, 0, 1), (23, 0, 0, 1), (2, 0, 0, 1), (1, 3, 0, 1), (0, 2, 0, 1), (15, 0, 0, 1), (23, 0, 0, 1), (2, 0, 0, 1), (1, 3, 0, 1), (0, 3, 0, 1), (15, 0, 0, 1), (23, 0, 0, 1), (36, 130, 8260, 3), (35, 0, 0, 1), (2, 2, 0, 1), (2, 0, 0, 1), (1, 3, 0, 1), (0, 1, 0, 1), (15, 0, 0, 1), (23, 0, 0, 1), (2, 0, 0, 1), (1, 3, 0, 1), (0, 2, 0, 1), (15, 0, 0, 1), (23, 0, 0, 1), (2, 0, 0, 1), (1, 3, 0, 1), (0, 3, 0, 1), (15, 0, 0, 1), (23, 0, 0, 1), (36, 240, 9284, 3), (35, 0, 0, 1), (12, 1287, 0, 3), (2, 1, 0, 1), (2, 0, 0, 1), (1, 3, 0, 1), (0, 1, 0, 1), (15, 0, 0, 1), (23, 0, 0, 1), (2, 0, 0, 1), (1, 3, 0, 1), (0, 2, 0, 1), (15, 0, 0, 1), (23, 0, 0, 1), (36, 131, 8243, 3), (35, 0, 0, 1), (2, 2, 0, 1), (2, 0, 0, 1), (1, 3, 0, 1), (0, 1, 0, 1), (15, 0, 0, 1), (23, 0, 0, 1), (2, 0, 0, 1), (1, 3, 0, 1), (0, 2, 0, 1), (15, 0, 0, 1), (23, 0, 0, 1), (36, 241, 9267, 3), (35, 0, 0, 1), (12, 1287, 0, 3), (2, 1, 0, 1), (2, 0, 0, 1), (1, 3, 0, 1), (0, 1, 0, 1), (15, 0, 0, 1), (23, 0, 0, 1), (2, 0, 0, 1), (1, 3, 0, 1), (0, 2, 0, 1), (15, 0, 0, 1), (23, 0, 0, 1), (36, 132, 8243, 3), (35, 0, 0, 1), (2, 2, 0, 1), (2, 0, 0, 1), (1, 3, 0, 1), (0, 1, 0, 1), (15, 0, 0, 1), (23, 0, 0, 1), (2, 0, 0, 1), (1, 3, 0, 1), (0, 2, 0, 1), (15, 0, 0, 1), (23, 0, 0, 1), (36, 242, 9267, 3), (35, 0, 0, 1), (12, 1287, 0, 3), (2, 1, 0, 1), (2, 0, 0, 1), (1, 3, 0, 1), (0, 1, 0, 1), (15, 0, 0, 1), (23, 0, 0, 1), (2, 0, 0, 1), (1, 3, 0, 1), (0, 2, 0, 1), (15, 0, 0, 1), (23, 0, 0, 1), (2, 0, 0, 1), (1, 3, 0, 1), (0, 3, 0, 1), (15, 0, 0, 1), (23, 0, 0, 1), (36, 133, 8260, 3), (35, 0, 0, 1), (2, 2, 0, 1), (2, 0, 0, 1), (1, 3, 0, 1), (0, 1, 0, 1), (15, 0, 0, 1), (23, 0, 0, 1), (2, 0, 0, 1), (1, 3, 0, 1), (0, 2, 0, 1), (15, 0, 0, 1), (23, 0, 0, 1), (2, 0, 0, 1), (1, 3, 0, 1), (0, 3, 0, 1), (15, 0, 0, 1), (23, 0, 0, 1), (36, 243, 9284, 3), (35, 0, 0, 1), (12, 1287, 0, 3), (2, 1, 0, 1), (2, 0, 0, 1), (1, 3, 0, 1), (0, 1, 0, 1), (15, 0, 0, 1), (23, 0, 0, 1), (2, 0, 0, 1), (1, 3, 0, 1), (0, 2, 0, 1), (15, 0, 0, 1), (23, 0, 0, 1), (36, 134, 8259, 3), (35, 0, 0, 1), (2, 2, 0, 1), (2, 0, 0, 1), (1, 3, 0, 1), (0, 1, 0, 1), (15, 0, 0, 1), (23, 0, 0, 1), (2, 0, 0, 1), (1, 3, 0, 1), (0, 2, 0, 1), (15, 0, 0, 1), (23, 0, 0, 1), (36, 244, 9283, 3), (35, 0, 0, 1), (12, 1287, 0, 3), (2, 1, 0, 1), (2, 0, 0, 1), (1, 3, 0, 1), (0, 1, 0, 1), (15, 0, 0, 1), (23, 0, 0, 1), (36, 135, 8226, 3), (35, 0, 0, 1), (2, 2, 0, 1), (2, 0, 0, 1), (1, 3, 0, 1), (0, 1, 0, 1), (15, 0, 0, 1), (23, 0, 0, 1), (36, 245, 9282, 3), (35, 0, 0, 1), (12, 1287, 0, 3), (2, 1, 0, 1), (2, 0, 0, 1), (1, 3, 0, 1), (0, 1, 0, 1), (15, 0, 0, 1), (23, 0, 0, 1), (36, 136, 8226, 3), (35, 0, 0, 1), (2, 2, 0, 1), (2, 0, 0, 1), (1, 3, 0, 1), (0, 1, 0, 1), (15, 0, 0, 1), (23, 0, 0, 1), (36, 246, 9314, 3), (35, 0, 0, 1), (12, 1287, 0, 3), (2, 1, 0, 1), (36, 137, 8209, 3), (35, 0, 0, 1), (2, 2, 0, 1), (36, 247, 9297, 3), (35, 0, 0, 1), (12, 1287, 0, 3), (2, 1, 0, 1), (2, 0, 0, 1), (1, 3, 0, 1), (0, 1, 0, 1), (15, 0, 0, 1), (23, 0, 0, 1), (36, 138, 8242, 3), (35, 0, 0, 1), (2, 2, 0, 1), (2, 0, 0, 1), (1, 3, 0, 1), (0, 1, 0, 1), (15, 0, 0, 1), (23, 0, 0, 1), (36, 248, 9266, 3), (35, 0, 0, 1), (12, 1287, 0, 3), (2, 1, 0, 1), (2, 0, 0, 1), (1, 3, 0, 1), (0, 1, 0, 1), (15, 0, 0, 1), (23, 0, 0, 1), (36, 139, 8226, 3), (35, 0, 0, 1), (2, 2, 0, 1), (2, 0, 0, 1), (1, 3, 0, 1), (0, 1, 0, 1), (15, 0, 0, 1), (23, 0, 0, 1), (36, 249, 9250, 3), (35, 0, 0, 1), (12, 1287, 0, 3), (2, 1, 0, 1), (2, 0, 0, 1), (1, 3, 0, 1), (0, 1, 0, 1), (15, 0, 0, 1), (23, 0, 0, 1), (2, 0, 0, 1), (1, 3, 0, 1), (0, 2, 0, 1), (15, 0, 0, 1), (23, 0, 0, 1), (36, 140, 8243, 3), (35, 0, 0, 1), (2, 2, 0, 1), (2, 0, 0, 1), (1, 3, 0, 1), (0, 1, 0, 1), (15, 0, 0, 1), (23, 0, 0, 1), (2, 0, 0, 1), (1, 3, 0, 1), (0, 2, 0, 1), (15, 0, 0, 1), (23, 0, 0, 1), (36, 250, 9267, 3), (35, 0, 0, 1), (12, 1287, 0, 3), (2, 1, 0, 1), (36, 141, 8225, 3), (47, 1187, 1, 1), (6, 4, 0, 2), (2, 2, 0, 1), (36, 251, 9233, 3), (47, 1194, 1, 1), (6, 6, 0, 2), (12, 1287, 0, 3), (2, 1, 0, 1), (36, 142, 8209, 3), (6, 4, 0, 2), (2, 2, 0, 1), (36, 252, 9233, 3), (6, 6, 0, 2), (12, 1287, 0, 3), (2, 1, 0, 1), (36, 143, 8209, 3), (35, 0, 0, 1), (2, 2, 0, 1), (36, 257, 9233, 3), (35, 0, 0, 1), (12, 1287, 0, 3), (2, 1, 0, 1), (2, 0, 0, 1), (1, 3, 0, 1), (0, 1, 0, 1), (15, 0, 0, 1), (23, 0, 0, 1), (36, 144, 8226, 3), (35, 0, 0, 1), (2, 2, 0, 1), (2, 0, 0, 1), (1, 3, 0, 1), (0, 1, 0, 1), (15, 0, 0, 1), (23, 0, 0, 1), (36, 258, 9250, 3), (35, 0, 0, 1), (12, 1287, 0, 3), (2, 1, 0, 1), (36, 145, 8209, 3), (35, 0, 0, 1), (2, 2, 0, 1), (36, 267, 9233, 3), (35, 0, 0, 1), (12, 1287, 0, 3), (2, 1, 0, 1), (2, 0, 0, 1), (1, 3, 0, 1), (0, 1, 0, 1), (15, 0, 0, 1), (23, 0, 0, 1), (36, 146, 8226, 3), (35, 0, 0, 1), (2, 2, 0, 1), (2, 0, 0, 1), (1, 3, 0, 1), (0, 1, 0, 1), (15, 0, 0, 1), (23, 0, 0, 1), (36, 268, 9250, 3), (35, 0, 0, 1), (12, 1287, 0, 3), (7, 3, 6, 3), (12, 18, 0, 3), (0, 1, 0, 1), (42, 0, 0, 1)]
def sc_g0 : List (List sI) := [sc_0, sc_1, sc_2, sc_3, sc_4, sc_5, sc_6, sc_7, sc_8, sc_9, sc_10, sc_11, sc_12, sc_13, sc_14, sc_15]
def sc_g1 : List (List sI) := [sc_16, sc_17, sc_18, sc_19, sc_20, sc_21, sc_22, sc_23, sc_24, sc_25, sc_26, sc_27, sc_28, sc_29, sc_30, sc_31]
def sc_g2 : List (List sI) := [sc_32, sc_33, sc_34, sc_35, sc_36, sc_37, sc_38, sc_39, sc_40, sc_41, sc_42, sc_43, sc_44, sc_45, sc_46, sc_47]
def sc_g3 : List (List sI) := [sc_48, sc_49, sc_50, sc_51, sc_52, sc_53, sc_54, sc_55, sc_56, sc_57, sc_58, sc_59, sc_60, sc_61, sc_62, sc_63]
def sc_g4 : List (List sI) := [sc_64, sc_65, sc_66, sc_67, sc_68, sc_69, sc_70, sc_71, sc_72, sc_73, sc_74, sc_75, sc_76, sc_77, sc_78, sc_79]
def sc_g5 : List (List sI) := [sc_80, sc_81, sc_82, sc_83, sc_84, sc_85, sc_86, sc_87, sc_88, sc_89, sc_90, sc_91, sc_92, sc_93, sc_94, sc_95]
def sc_g6 : List (List sI) := [sc_96, sc_97, sc_98, sc_99, sc_100, sc_101, sc_102, sc_103, sc_104, sc_105, sc_106, sc_107, sc_108, sc_109, sc_110, sc_111]
def sc_g7 : List (List sI) := [sc_112, sc_113, sc_114, sc_115, sc_116, sc_117, sc_118, sc_119, sc_120, sc_121, sc_122, sc_123, sc_124, sc_125, sc_126, sc_127]
def sc_g8 : List (List sI) := [sc_128, sc_129, sc_130, sc_131, sc_132, sc_133, sc_134, sc_135, sc_136, sc_137, sc_138, sc_139, sc_140, sc_141, sc_142, sc_143]
def sc_g9 : List (List sI) := [sc_144, sc_145, sc_146, sc_147, sc_148, sc_149, sc_150, sc_151, sc_152, sc_153, sc_154, sc_155, sc_156, sc_157, sc_158, sc_159]
def sc_g10 : List (List sI) := [sc_160, sc_161, sc_162, sc_163, sc_164, sc_165, sc_166, sc_167, sc_168, sc_169, sc_170, sc_171, sc_172, sc_173, sc_174, sc_175]
def sc_g11 : List (List sI) := [sc_176, sc_177, sc_178, sc_179, sc_180, sc_181, sc_182, sc_183, sc_184, sc_185, sc_186, sc_187, sc_188, sc_189, sc_190, sc_191]
def sc_g12 : List (List sI) := [sc_192, sc_193, sc_194, sc_195, sc_196, sc_197, sc_198, sc_199, sc_200, sc_201, sc_202, sc_203, sc_204, sc_205, sc_206, sc_207]
def sc_g13 : List (List sI) := [sc_208, sc_209, sc_210, sc_211, sc_212, sc_213, sc_214, sc_215, sc_216, sc_217, sc_218, sc_219, sc_220, sc_221, sc_222, sc_223]
def sc_g14 : List (List sI) := [sc_224, sc_225, sc_226, sc_227, sc_228, sc_229, sc_230, sc_231, sc_232, sc_233, sc_234, sc_235, sc_236, sc_237, sc_238, sc_239]
def sc_g15 : List (List sI) := [sc_240, sc_241, sc_242, sc_243, sc_244, sc_245, sc_246, sc_247, sc_248, sc_249, sc_250, sc_251, sc_252, sc_253, sc_254, sc_255]
def sc_g16 : List (List sI) := [sc_256, sc_257, sc_258, sc_259, sc_260, sc_261, sc_262, sc_263, sc_264, sc_265, sc_266, sc_267, sc_268, sc_269, sc_270, sc_271]
def sc_all : List (List (List sI)) := [sc_g0, sc_g1, sc_g2, sc_g3, sc_g4, sc_g5, sc_g6, sc_g7, sc_g8, sc_g9, sc_g10, sc_g11, sc_g12, sc_g13, sc_g14, sc_g15, sc_g16]
noncomputable def s_at {α : Type} (d : α) (l : List α) : Nat → α := List.rec (motive := fun _ => Nat → α) (fun _ => d) (fun a _ ih i => Nat.rec (motive := fun _ => α) a (fun j _ => ih j) i) l
noncomputable def sc_meth (y : Nat) : List sI := s_at [] (s_at [] sc_all (y / 16)) (y % 16)
end
section
/-! THE S MACHINE STANDS FOR THE J MACHINE: numbers, symbols, comparisons -/
theorem c_t {α : Type} (a b : α) : cond true a b = a := rfl
theorem c_f {α : Type} (a b : α) : cond false a b = b := rfl
theorem b_lt {a b : Nat} (h : Nat.blt a b = true) : a < b := Eq.mp Nat.blt_eq h
theorem b_nlt {a b : Nat} (h : Nat.blt a b = false) : b ≤ a := Nat.not_lt.mp (fun q => by rw [show Nat.blt a b = true from Eq.mpr Nat.blt_eq q] at h; cases h)
theorem b_le {a b : Nat} (h : Nat.ble a b = true) : a ≤ b := Nat.le_of_ble_eq_true h
theorem b_nle {a b : Nat} (h : Nat.ble a b = false) : b < a := Nat.not_le.mp (fun q => by rw [Nat.ble_eq_true_of_le q] at h; cases h)
theorem b_eq {a b : Nat} (h : Nat.beq a b = true) : a = b := Nat.eq_of_beq_eq_true h
theorem b_ne {a b : Nat} (h : Nat.beq a b = false) : ¬ a = b := Nat.ne_of_beq_eq_false h
theorem s_c1 {c a : Bool} (h : cond c a false = true) : c = true ∧ a = true := by
  cases c
  · cases h
  · exact ⟨rfl, h⟩
theorem s_c2 {c a b : Bool} (h : cond c a b = true) : (c = true ∧ a = true) ∨ (c = false ∧ b = true) := by
  cases c
  · exact Or.inr ⟨rfl, h⟩
  · exact Or.inl ⟨rfl, h⟩
theorem s_and {a b : Bool} (h : (a && b) = true) : a = true ∧ b = true := by
  cases a
  · cases h
  · exact ⟨rfl, h⟩
theorem s_or {a b : Bool} (h : (a || b) = true) : a = true ∨ b = true := by
  cases a
  · exact Or.inr h
  · exact Or.inl rfl
theorem s_or0 {a b : Bool} (h : (a || b) = false) : a = false ∧ b = false := by
  cases a
  · exact ⟨rfl, h⟩
  · cases h
theorem s_frc_eq (n : Nat) (k : Nat → Bool) : s_frc n k = k n := by cases n <;> rfl
/-- a whole number, moved up so that the least is 0 -/
def sb (w : Int32) : Nat := (w.toInt + 2147483648).toNat
theorem sb_lo (w : Int32) : -2147483648 ≤ w.toInt := by have h := Int32.le_toInt w; omega
theorem sb_hi (w : Int32) : w.toInt < 2147483648 := by have h := Int32.toInt_lt w; omega
theorem s_bias_eq (x : Nat) : (x < 2147483648 → s_bias x = x + 2147483648) ∧ (2147483648 ≤ x → s_bias x = x - 2147483648) := by
  unfold s_bias
  cases h : Nat.blt x 2147483648 with
  | true =>
    rw [c_t]
    have h2 := b_lt h
    exact ⟨fun _ => Eq.refl _, fun q => absurd h2 (Nat.not_lt.mpr q)⟩
  | false =>
    rw [c_f]
    have h2 := b_nlt h
    exact ⟨fun q => absurd q (Nat.not_lt.mpr h2), fun _ => Eq.refl _⟩
theorem sb_of {x : Nat} (h : x < sM) : sb (Int32.ofNat x) = s_bias x := by
  obtain ⟨b1, b2⟩ := s_bias_eq x
  unfold sb
  rw [Int32.toInt_ofNat']
  have h2 : x < 4294967296 := h
  have h3 : (x : Int).bmod Int32.size = (x : Int).bmod 4294967296 := rfl
  rw [h3, Int.bmod_def]
  rcases Nat.lt_or_ge x 2147483648 with q | q
  · rw [b1 q]
    split <;> omega
  · rw [b2 q]
    split <;> omega
theorem sb_max (w : Int32) : sb w < sM := by
  have h1 := sb_lo w
  have h2 := sb_hi w
  show sb w < 4294967296
  unfold sb
  omega
theorem sb_lt (a b : Int32) : a < b ↔ sb a < sb b := by
  have h1 := sb_lo a
  have h2 := sb_lo b
  rw [Int32.lt_iff_toInt_lt]
  unfold sb
  omega
theorem sb_inj {a b : Int32} (h : sb a = sb b) : a = b := by
  have h1 := sb_lo a
  have h2 := sb_lo b
  unfold sb at h
  exact Int32.toInt_inj.1 (by omega)
theorem s_bias_lt {x : Nat} (h : x < sM) : s_bias x < sM := by
  obtain ⟨b1, b2⟩ := s_bias_eq x
  have h2 : x < 4294967296 := h
  show s_bias x < 4294967296
  rcases Nat.lt_or_ge x 2147483648 with q | q
  · rw [b1 q]; omega
  · rw [b2 q]; omega
theorem s_bias2 {x : Nat} (h : x < sM) : s_bias (s_bias x) = x := by
  have h2 : x < 4294967296 := h
  rcases Nat.lt_or_ge x 2147483648 with q | q
  · rw [(s_bias_eq x).1 q, (s_bias_eq (x + 2147483648)).2 (by omega)]; omega
  · rw [(s_bias_eq x).2 q, (s_bias_eq (x - 2147483648)).1 (by omega)]; omega
theorem sb_inv {v : Nat} {w : Int32} (hv : v < sM) (h : sb w = v) : w = Int32.ofNat (s_bias v) := by
  refine sb_inj ?_
  rw [sb_of (s_bias_lt hv), s_bias2 hv]
  exact h
def sRf (x a : Nat) : Prop := x = sREF + a ∧ a < sM
theorem sRf_num {x a : Nat} (h : sRf x a) : 4294967296 ≤ x ∧ x < 8589934592 ∧ x - 4294967296 = a := by
  have h1 : x = 4294967296 + a := h.1
  have h2 : a < 4294967296 := h.2
  omega
/-- x stands for v -/
def sr (ρ : Nat → Int32) (x : Nat) (v : Value) : Prop := match v with
  | .int w => (x < sM ∧ w = Int32.ofNat x) ∨ (∃ k, k < 8 ∧ x = sSYM + k ∧ w = ρ k) ∨ x = sUNK
  | .ref a => sRf x a
  | .null => x = sNUL
  | .float u => x = sFLT + u.toNat
  | .double u => x = sDBL + u.toNat
  | _ => False
theorem sr_num {ρ : Nat → Int32} {x : Nat} {v : Value} (hx : x < sM) (h : sr ρ x v) : v = .int (Int32.ofNat x) := by
  have hx2 : x < 4294967296 := hx
  cases v with
  | int w =>
    rcases h with ⟨-, rfl⟩ | ⟨k, hk, hk2, -⟩ | hu
    · rfl
    · have : x = 17179869184 + k := hk2
      omega
    · have : x = 17179869284 := hu
      omega
  | ref a =>
    have r := sRf_num h
    omega
  | null =>
    have : x = 17179869286 := h
    omega
  | float u =>
    have : x = 1099511627776 + u.toNat := h
    omega
  | double u =>
    have : x = 1208925819614629174706176 + u.toNat := h
    omega
  | long u => cases h
  | retAddr u => cases h
theorem sr_int {ρ : Nat → Int32} {x : Nat} {v : Value} (hx : s_isI x = true) (h : sr ρ x v) : ∃ w, v = .int w := by
  have hx2 : x < 4294967296 ∨ (17179869184 ≤ x ∧ x ≤ 17179869284) := by
    rcases s_or hx with q | q
    · exact Or.inl (b_lt q)
    · obtain ⟨q1, q2⟩ := s_and q
      exact Or.inr ⟨b_le q1, b_le q2⟩
  cases v with
  | int w => exact ⟨w, rfl⟩
  | ref a =>
    obtain ⟨r1, r2, -⟩ := sRf_num h
    omega
  | null =>
    have : x = 17179869286 := h
    omega
  | float u =>
    have : x = 1099511627776 + u.toNat := h
    omega
  | double u =>
    have : x = 1208925819614629174706176 + u.toNat := h
    omega
  | long u => cases h
  | retAddr u => cases h
theorem sr_ref {ρ : Nat → Int32} {x : Nat} {v : Value} (hx : s_isR x = true) (h : sr ρ x v) : v = .ref (x - sREF) ∧ x - sREF < sM ∧ x = sREF + (x - sREF) := by
  obtain ⟨q1, q2⟩ := s_and hx
  have h1 : 4294967296 ≤ x := b_le q1
  have h2 : x < 17179869184 := b_lt q2
  cases v with
  | int w =>
    rcases h with ⟨h3, -⟩ | ⟨k, hk, hk2, -⟩ | hu
    · have : x < 4294967296 := h3
      omega
    · have : x = 17179869184 + k := hk2
      omega
    · have : x = 17179869284 := hu
      omega
  | ref a =>
    obtain ⟨r1, r2, r3⟩ := sRf_num h
    refine ⟨?_, ?_, ?_⟩
    · show Value.ref a = .ref (x - 4294967296)
      rw [r3]
    · show x - 4294967296 < 4294967296
      omega
    · show x = 4294967296 + (x - 4294967296)
      omega
  | null =>
    have : x = 17179869286 := h
    omega
  | float u =>
    have : x = 1099511627776 + u.toNat := h
    omega
  | double u =>
    have : x = 1208925819614629174706176 + u.toNat := h
    omega
  | long u => cases h
  | retAddr u => cases h
theorem sr_dbl {ρ : Nat → Int32} {x : Nat} {v : Value} (hx : s_isD x = true) (h : sr ρ x v) : ∃ u, v = .double u := by
  have hx2 : 1208925819614629174706176 ≤ x := b_le hx
  cases v with
  | int w =>
    rcases h with ⟨h3, -⟩ | ⟨k, hk, hk2, -⟩ | hu
    · have : x < 4294967296 := h3
      omega
    · have : x = 17179869184 + k := hk2
      omega
    · have : x = 17179869284 := hu
      omega
  | ref a =>
    obtain ⟨r1, r2, -⟩ := sRf_num h
    omega
  | null =>
    have : x = 17179869286 := h
    omega
  | float u =>
    have h3 : x = 1099511627776 + u.toNat := h
    have h4 := u.toNat_lt
    omega
  | double u => exact ⟨u, rfl⟩
  | long u => cases h
  | retAddr u => cases h
/-- what is no double takes one word -/
theorem sr_cat {ρ : Nat → Int32} {x : Nat} {v : Value} (hx : x < sDBL) (h : sr ρ x v) : v.category = 1 := by
  cases v with
  | double u =>
    have h3 : x = 1208925819614629174706176 + u.toNat := h
    have h4 : x < 1208925819614629174706176 := hx
    omega
  | long u => cases h
  | retAddr u => cases h
  | int w => rfl
  | ref a => rfl
  | null => rfl
  | float u => rfl
theorem sr_sym {ρ : Nat → Int32} {x : Nat} {v : Value} (hx : s_isS x = true) (h : sr ρ x v) : ∃ k, k < 8 ∧ x = sSYM + k ∧ x - sSYM = k ∧ v = .int (ρ k) := by
  obtain ⟨q1, q2⟩ := s_and hx
  have h1 : 17179869184 ≤ x := b_le q1
  have h2 : x < 17179869192 := b_lt q2
  have hI : s_isI x = true := by
    unfold s_isI
    rw [show Nat.ble sSYM x = true from Nat.ble_eq_true_of_le h1, show Nat.ble x sUNK = true from Nat.ble_eq_true_of_le (by show x ≤ 17179869284; omega)]
    cases Nat.blt x sM <;> rfl
  obtain ⟨w, rfl⟩ := sr_int hI h
  rcases h with ⟨h3, -⟩ | ⟨k, hk, hk2, rfl⟩ | hu
  · have : x < 4294967296 := h3
    omega
  · have h4 : x = 17179869184 + k := hk2
    exact ⟨k, hk, hk2, by show x - 17179869184 = k; omega, rfl⟩
  · have : x = 17179869284 := hu
    omega
/-- the symbols lie in their intervals -/
def sEk (ρ : Nat → Int32) (env : sE) : Prop := ∀ k, (s_iv env k).1 ≤ sb (ρ k) ∧ sb (ρ k) ≤ (s_iv env k).2
theorem s_eset_iv : ∀ (env : sE) (k : Nat) (p : Nat × Nat) (j : Nat), s_iv (s_eset env k p) j = s_iv env j ∨ (j = k ∧ s_iv (s_eset env k p) j = p)
  | [], _, _, _ => Or.inl rfl
  | a :: t, 0, p, 0 => Or.inr ⟨rfl, rfl⟩
  | a :: t, 0, p, j + 1 => Or.inl rfl
  | a :: t, k + 1, p, 0 => Or.inl rfl
  | a :: t, k + 1, p, j + 1 => by
    rcases s_eset_iv t k p j with h | ⟨h1, h2⟩
    · exact Or.inl h
    · exact Or.inr ⟨by rw [h1], h2⟩
theorem sEk_set {ρ : Nat → Int32} {env : sE} {k : Nat} {p : Nat × Nat} (h : sEk ρ env) (h1 : p.1 ≤ sb (ρ k)) (h2 : sb (ρ k) ≤ p.2) : sEk ρ (s_eset env k p) := by
  intro j
  rcases s_eset_iv env k p j with q | ⟨rfl, q⟩
  · rw [q]; exact h j
  · rw [q]; exact ⟨h1, h2⟩
theorem s_res_eq (env : sE) (x : Nat) : s_res env x = x ∨ (s_isS x = true ∧ (s_iv env (x - sSYM)).1 = (s_iv env (x - sSYM)).2 ∧ s_res env x = s_bias (s_iv env (x - sSYM)).1) := by
  unfold s_res
  cases h1 : Nat.blt x sM with
  | true =>
    rw [c_t]
    exact Or.inl (Eq.refl _)
  | false =>
    rw [c_f]
    cases h2 : s_isS x with
    | false =>
      rw [c_f]
      exact Or.inl (Eq.refl _)
    | true =>
      rw [c_t]
      cases h3 : Nat.beq (s_iv env (x - sSYM)).1 (s_iv env (x - sSYM)).2 with
      | false =>
        rw [c_f]
        exact Or.inl (Eq.refl _)
      | true =>
        rw [c_t]
        exact Or.inr ⟨Eq.refl _, b_eq h3, Eq.refl _⟩
theorem sr_res {ρ : Nat → Int32} {env : sE} {x : Nat} {v : Value} (hE : sEk ρ env) (h : sr ρ x v) : sr ρ (s_res env x) v := by
  rcases s_res_eq env x with e | ⟨h2, h4, e⟩
  · rw [e]; exact h
  · rw [e]
    obtain ⟨k, hk, hx, hxk, rfl⟩ := sr_sym h2 h
    rw [hxk] at h4 ⊢
    obtain ⟨e1, e2⟩ := hE k
    have h5 : sb (ρ k) = (s_iv env k).1 := by omega
    have h6 : (s_iv env k).1 < sM := by rw [← h5]; exact sb_max _
    exact Or.inl ⟨s_bias_lt h6, sb_inv h6 h5⟩
theorem s_lt_ok {ρ : Nat → Int32} {env : sE} {x y : Nat} {kt kf : sE → Bool} {a b : Int32} (h : s_lt env x y kt kf = true) (hE : sEk ρ env) (hx : sr ρ x (.int a)) (hy : sr ρ y (.int b)) :
    (a < b ∧ ∃ env', sEk ρ env' ∧ kt env' = true) ∨ (¬ a < b ∧ ∃ env', sEk ρ env' ∧ kf env' = true) := by
  unfold s_lt at h
  rcases s_c2 h with ⟨x1, h⟩ | ⟨x1, h⟩
  · have hx1 := b_lt x1
    cases sr_num hx1 hx
    rcases s_c2 h with ⟨y1, h⟩ | ⟨y1, h⟩
    · have hy1 := b_lt y1
      cases sr_num hy1 hy
      rw [sb_lt, sb_of hx1, sb_of hy1]
      rcases s_c2 h with ⟨q, h⟩ | ⟨q, h⟩
      · exact Or.inl ⟨b_lt q, env, hE, h⟩
      · exact Or.inr ⟨Nat.not_lt.mpr (b_nlt q), env, hE, h⟩
    · obtain ⟨y2, h⟩ := s_c1 h
      obtain ⟨k, hk, hyk, hyk2, he⟩ := sr_sym y2 hy
      cases he
      rw [hyk2] at h
      obtain ⟨e1, e2⟩ := hE k
      rw [sb_lt, sb_of hx1]
      rcases s_c2 h with ⟨q, h⟩ | ⟨q, h⟩
      · have := b_lt q
        exact Or.inl ⟨by omega, env, hE, h⟩
      · rcases s_c2 h with ⟨q2, h⟩ | ⟨q2, h⟩
        · have := b_le q2
          exact Or.inr ⟨by omega, env, hE, h⟩
        · obtain ⟨h1, h2⟩ := s_and h
          by_cases c : s_bias x < sb (ρ k)
          · exact Or.inl ⟨c, _, sEk_set (p := (s_bias x + 1, (s_iv env k).2)) hE (by dsimp only; omega) e2, h1⟩
          · exact Or.inr ⟨c, _, sEk_set (p := ((s_iv env k).1, s_bias x)) hE e1 (by dsimp only; omega), h2⟩
  · obtain ⟨x2, h⟩ := s_c1 h
    obtain ⟨x3, y1⟩ := s_and x2
    have hy1 := b_lt y1
    cases sr_num hy1 hy
    obtain ⟨k, hk, hxk, hxk2, he⟩ := sr_sym x3 hx
    cases he
    rw [hxk2] at h
    obtain ⟨e1, e2⟩ := hE k
    rw [sb_lt, sb_of hy1]
    rcases s_c2 h with ⟨q, h⟩ | ⟨q, h⟩
    · have := b_lt q
      exact Or.inl ⟨by omega, env, hE, h⟩
    · rcases s_c2 h with ⟨q2, h⟩ | ⟨q2, h⟩
      · have := b_le q2
        exact Or.inr ⟨by omega, env, hE, h⟩
      · obtain ⟨h1, h2⟩ := s_and h
        by_cases c : sb (ρ k) < s_bias y
        · exact Or.inl ⟨c, _, sEk_set (p := ((s_iv env k).1, s_bias y - 1)) hE e1 (by dsimp only; omega), h1⟩
        · exact Or.inr ⟨c, _, sEk_set (p := (s_bias y, (s_iv env k).2)) hE (by dsimp only; omega) e2, h2⟩
theorem s_eq1_ok {ρ : Nat → Int32} {env : sE} {k c : Nat} {kt kf : sE → Bool} (h : s_eq1 env k c kt kf = true) (hE : sEk ρ env) :
    (sb (ρ k) = c ∧ ∃ env', sEk ρ env' ∧ kt env' = true) ∨ (¬ sb (ρ k) = c ∧ ∃ env', sEk ρ env' ∧ kf env' = true) := by
  unfold s_eq1 at h
  obtain ⟨e1, e2⟩ := hE k
  rcases s_c2 h with ⟨q, h⟩ | ⟨q, h⟩
  · rcases s_or q with q | q
    · have := b_lt q
      exact Or.inr ⟨by omega, env, hE, h⟩
    · have := b_lt q
      exact Or.inr ⟨by omega, env, hE, h⟩
  · obtain ⟨q1, q2⟩ := s_or0 q
    have q1 := b_nlt q1
    have q2 := b_nlt q2
    rcases s_c2 h with ⟨q3, h⟩ | ⟨q3, h⟩
    · have := b_eq q3
      exact Or.inl ⟨by omega, env, hE, h⟩
    · obtain ⟨h1, h⟩ := s_and h
      by_cases hc : sb (ρ k) = c
      · exact Or.inl ⟨hc, _, sEk_set (p := (c, c)) hE (by dsimp only; omega) (by dsimp only; omega), h1⟩
      · refine Or.inr ⟨hc, ?_⟩
        rcases s_c2 h with ⟨q4, h⟩ | ⟨q4, h⟩
        · have := b_eq q4
          exact ⟨_, sEk_set (p := (c + 1, (s_iv env k).2)) hE (by dsimp only; omega) e2, h⟩
        · rcases s_c2 h with ⟨q5, h⟩ | ⟨q5, h⟩
          · have := b_eq q5
            exact ⟨_, sEk_set (p := ((s_iv env k).1, c - 1)) hE e1 (by dsimp only; omega), h⟩
          · obtain ⟨h2, h3⟩ := s_and h
            by_cases hl : sb (ρ k) < c
            · exact ⟨_, sEk_set (p := ((s_iv env k).1, c - 1)) hE e1 (by dsimp only; omega), h2⟩
            · exact ⟨_, sEk_set (p := (c + 1, (s_iv env k).2)) hE (by dsimp only; omega) e2, h3⟩
theorem s_eq_ok {ρ : Nat → Int32} {env : sE} {x y : Nat} {kt kf : sE → Bool} {a b : Int32} (h : s_eq env x y kt kf = true) (hE : sEk ρ env) (hx : sr ρ x (.int a)) (hy : sr ρ y (.int b)) :
    (a = b ∧ ∃ env', sEk ρ env' ∧ kt env' = true) ∨ (¬ a = b ∧ ∃ env', sEk ρ env' ∧ kf env' = true) := by
  have key : ∀ a b : Int32, a = b ↔ sb a = sb b := fun a b => ⟨fun q => by rw [q], sb_inj⟩
  unfold s_eq at h
  rcases s_c2 h with ⟨x1, h⟩ | ⟨x1, h⟩
  · have hx1 := b_lt x1
    cases sr_num hx1 hx
    rcases s_c2 h with ⟨y1, h⟩ | ⟨y1, h⟩
    · have hy1 := b_lt y1
      cases sr_num hy1 hy
      rcases s_c2 h with ⟨q, h⟩ | ⟨q, h⟩
      · exact Or.inl ⟨by rw [b_eq q], env, hE, h⟩
      · refine Or.inr ⟨fun e => b_ne q ?_, env, hE, h⟩
        have e2 : s_bias x = s_bias y := by rw [← sb_of hx1, ← sb_of hy1, e]
        rw [← s_bias2 hx1, ← s_bias2 hy1, e2]
    · obtain ⟨y2, h⟩ := s_c1 h
      obtain ⟨k, hk, hyk, hyk2, he⟩ := sr_sym y2 hy
      cases he
      rw [hyk2] at h
      rw [key, sb_of hx1]
      rcases s_eq1_ok h hE with ⟨q, r⟩ | ⟨q, r⟩
      · exact Or.inl ⟨q.symm, r⟩
      · exact Or.inr ⟨fun e => q e.symm, r⟩
  · obtain ⟨x2, h⟩ := s_c1 h
    obtain ⟨x3, y1⟩ := s_and x2
    have hy1 := b_lt y1
    cases sr_num hy1 hy
    obtain ⟨k, hk, hxk, hxk2, he⟩ := sr_sym x3 hx
    cases he
    rw [hxk2] at h
    rw [key, sb_of hy1]
    exact s_eq1_ok h hE
def s_ccn (c : ClassFile.Cond) : Nat := match c with
  | .eq => 0
  | .ne => 1
  | .lt => 2
  | .ge => 3
  | .gt => 4
  | .le => 5
theorem s_cc_ok {ρ : Nat → Int32} {env : sE} {x y : Nat} {kt kf : sE → Bool} {a b : Int32} {cn : ClassFile.Cond} (h : s_cc env (s_ccn cn) x y kt kf = true) (hE : sEk ρ env) (hx : sr ρ x (.int a)) (hy : sr ρ y (.int b)) :
    (jv_cc cn a b = true ∧ ∃ env', sEk ρ env' ∧ kt env' = true) ∨ (¬ jv_cc cn a b = true ∧ ∃ env', sEk ρ env' ∧ kf env' = true) := by
  have hle : ∀ a b : Int32, a ≤ b ↔ ¬ b < a := fun a b => Int32.not_lt.symm
  cases cn <;> simp only [jv_cc, decide_eq_true_eq]
  · exact s_eq_ok h hE hx hy
  · rcases s_eq_ok h hE hx hy with ⟨q, r⟩ | ⟨q, r⟩
    · exact Or.inr ⟨fun z => z q, r⟩
    · exact Or.inl ⟨q, r⟩
  · exact s_lt_ok h hE hx hy
  · show (b ≤ a ∧ _) ∨ (¬ b ≤ a ∧ _)
    rw [hle]
    rcases s_lt_ok h hE hx hy with ⟨q, r⟩ | ⟨q, r⟩
    · exact Or.inr ⟨fun z => z q, r⟩
    · exact Or.inl ⟨q, r⟩
  · show (b < a ∧ _) ∨ (¬ b < a ∧ _)
    exact s_lt_ok h hE hy hx
  · rw [hle]
    rcases s_lt_ok h hE hy hx with ⟨q, r⟩ | ⟨q, r⟩
    · exact Or.inr ⟨fun z => z q, r⟩
    · exact Or.inl ⟨q, r⟩
theorem s_all_ok {f : Nat → Bool} {lo : Nat} : ∀ (n v : Nat), s_all f lo n = true → lo ≤ v → v < lo + n → f v = true
  | 0, v, _, h1, h2 => by omega
  | n + 1, v, h, h1, h2 => by
    obtain ⟨h3, h4⟩ := s_and (show (f (lo + n) && s_all f lo n) = true from h)
    by_cases hv : v = lo + n
    · rw [hv]; exact h3
    · exact s_all_ok n v h4 h1 (by omega)
theorem s_conc_ok {ρ : Nat → Int32} {env : sE} {x : Nat} {k : Nat → sE → Bool} {a : Int32} (h : s_conc env x k = true) (hE : sEk ρ env) (hx : sr ρ x (.int a)) : ∃ (z : Nat) (env' : sE), sEk ρ env' ∧ z < sM ∧ a = Int32.ofNat z ∧ k z env' = true := by
  unfold s_conc at h
  rcases s_c2 h with ⟨x1, h⟩ | ⟨x1, h⟩
  · have hx1 := b_lt x1
    cases sr_num hx1 hx
    exact ⟨x, env, hE, hx1, rfl, h⟩
  · obtain ⟨x2, h⟩ := s_c1 h
    obtain ⟨-, h⟩ := s_c1 h
    obtain ⟨j, hj, hxj, hxj2, he⟩ := sr_sym x2 hx
    cases he
    rw [hxj2] at h
    obtain ⟨e1, e2⟩ := hE j
    have h3 := s_all_ok _ (sb (ρ j)) h e1 (by omega)
    rw [s_frc_eq] at h3
    obtain ⟨h4, h5⟩ := s_c1 h3
    exact ⟨_, _, sEk_set (p := (sb (ρ j), sb (ρ j))) hE (Nat.le_refl _) (Nat.le_refl _), s_bias_lt (b_lt h4), sb_inv (b_lt h4) rfl, h5⟩
/-! arithmetic below 2^32 -/
theorem a_mod (n : Nat) : Int32.ofNat (n % sM) = Int32.ofNat n := by
  apply Int32.toBitVec.inj
  show BitVec.ofNat 32 (n % 4294967296) = BitVec.ofNat 32 n
  apply BitVec.eq_of_toNat_eq
  rw [BitVec.toNat_ofNat, BitVec.toNat_ofNat]
  exact Nat.mod_mod n 4294967296
theorem a_add (x y : Nat) : Int32.ofNat x + Int32.ofNat y = Int32.ofNat ((x + y) % sM) := by rw [a_mod, Int32.ofNat_add]
theorem a_mul (x y : Nat) : Int32.ofNat x * Int32.ofNat y = Int32.ofNat ((x * y) % sM) := by rw [a_mod, Int32.ofNat_mul]
theorem a_sub {x y : Nat} (hx : x < sM) (hy : y < sM) : Int32.ofNat x - Int32.ofNat y = Int32.ofNat ((x + sM - y) % sM) := by
  have hx2 : x < 4294967296 := hx
  have hy2 : y < 4294967296 := hy
  rw [a_mod]
  apply Int32.toBitVec.inj
  show BitVec.ofNat 32 x - BitVec.ofNat 32 y = BitVec.ofNat 32 (x + 4294967296 - y)
  apply BitVec.eq_of_toNat_eq
  rw [BitVec.toNat_sub, BitVec.toNat_ofNat, BitVec.toNat_ofNat, BitVec.toNat_ofNat]
  show (4294967296 - y % 4294967296 + x % 4294967296) % 4294967296 = (x + 4294967296 - y) % 4294967296
  omega
theorem a_xor (x y : Nat) : Int32.ofNat x ^^^ Int32.ofNat y = Int32.ofNat (Nat.xor x y) := by
  apply Int32.toBitVec.inj
  show BitVec.ofNat 32 x ^^^ BitVec.ofNat 32 y = BitVec.ofNat 32 (x ^^^ y)
  apply BitVec.eq_of_toNat_eq
  simp [Nat.xor_mod_two_pow]
theorem a_and (x y : Nat) : Int32.ofNat x &&& Int32.ofNat y = Int32.ofNat (Nat.land x y) := by
  apply Int32.toBitVec.inj
  show BitVec.ofNat 32 x &&& BitVec.ofNat 32 y = BitVec.ofNat 32 (x &&& y)
  apply BitVec.eq_of_toNat_eq
  simp [Nat.and_mod_two_pow]
theorem a_div {x y : Nat} (hx : x < 2147483648) (hy : y < 2147483648) : Int32.ofNat x / Int32.ofNat y = Int32.ofNat (x / y) := by
  have hxy : x / y ≤ x := Nat.div_le_self x y
  have hne : Int32.ofNat y ≠ -1 := by
    intro q
    have h1 := congrArg Int32.toInt q
    rw [Int32.toInt_ofNat_of_lt (by omega)] at h1
    have h2 : (-1 : Int32).toInt = -1 := by decide
    rw [h2] at h1
    omega
  apply Int32.toInt_inj.1
  rw [Int32.toInt_div_of_ne_right _ _ hne, Int32.toInt_ofNat_of_lt (by omega), Int32.toInt_ofNat_of_lt (by omega), Int32.toInt_ofNat_of_lt (by omega)]
  rfl
theorem a_rem {x y : Nat} (hx : x < 2147483648) (hy : y < 2147483648) (h0 : 0 < y) : Int32.ofNat x - Int32.ofNat x / Int32.ofNat y * Int32.ofNat y = Int32.ofNat (x % y) := by
  rw [a_div hx hy, a_mul]
  have h1 : x / y * y ≤ x := Nat.div_mul_le_self x y
  have h2 : x / y * y + x % y = x := by have := Nat.div_add_mod x y; rw [Nat.mul_comm] at this; exact this
  have h3 : x % y < y := Nat.mod_lt x h0
  have e : (x / y * y) % sM = x / y * y := Nat.mod_eq_of_lt (by show _ < 4294967296; omega)
  rw [e, a_sub (by show _ < 4294967296; omega) (by show _ < 4294967296; omega)]
  congr 1
  show (x + 4294967296 - x / y * y) % 4294967296 = x % y
  omega
theorem a_ne0 {y : Nat} (h : y < sM) (h0 : 0 < y) : ¬ Int32.ofNat y = 0 := by
  intro q
  have h1 : sb (Int32.ofNat y) = sb (Int32.ofNat 0) := by rw [q]; rfl
  have h2 : y < 4294967296 := h
  rw [sb_of h, sb_of (by decide)] at h1
  have h3 := s_bias2 h
  rw [h1] at h3
  have h4 : s_bias (s_bias 0) = 0 := s_bias2 (by decide)
  omega
end
section
/-! THE S MACHINE STANDS FOR THE J MACHINE: code, frames, cells -/
def sow (y : Nat) : Nat := ((jv_inf y).getD (0, 0, 0, 0, 0, 0)).1
def sini (y : Nat) : Bool := decide (((jv_inf y).getD (0, 0, 0, 0, 0, 0)).2.1 = 2)
def sk_const (i : Instr) (a : Nat) : Bool := match i with
  | .iconst n => decide (Int32.ofInt n = Int32.ofNat a ∧ a < sM)
  | .bipush n => decide ((Int8.ofInt n).toInt32 = Int32.ofNat a ∧ a < sM)
  | .sipush n => decide ((Int16.ofInt n).toInt32 = Int32.ofNat a ∧ a < sM)
  | _ => false
def sk_iload (i : Instr) (a : Nat) : Bool := match i with
  | .iload_n k => decide (k.val = a)
  | .iload k => decide (k = a)
  | _ => false
def sk_aload (i : Instr) (a : Nat) : Bool := match i with
  | .aload_n k => decide (k.val = a)
  | .aload k => decide (k = a)
  | _ => false
def sk_dload (i : Instr) (a : Nat) : Bool := match i with
  | .dload_n k => decide (k.val = a)
  | .dload k => decide (k = a)
  | _ => false
def sk_istore (i : Instr) (a : Nat) : Bool := match i with
  | .istore_n k => decide (k.val = a)
  | .istore k => decide (k = a)
  | _ => false
def sk_astore (i : Instr) (a : Nat) : Bool := match i with
  | .astore_n k => decide (k.val = a)
  | .astore k => decide (k = a)
  | _ => false
def sk_dstore (i : Instr) (a : Nat) : Bool := match i with
  | .dstore_n k => decide (k.val = a)
  | .dstore k => decide (k = a)
  | _ => false
def sk_iinc (i : Instr) (a b : Nat) : Bool := match i with
  | .iinc k n => decide (k = a ∧ Int32.ofInt n = Int32.ofNat b ∧ b < sM)
  | _ => false
def sk_getf (y : Nat) (i : Instr) (a b : Nat) : Bool := match i with
  | .getfield idx => decide (jv_fld (sow y) idx = some (a, b))
  | _ => false
/-- kinds: 0 whole number, 1 truth, 2 reference -/
def pv_k (kd : Nat) (ty : FieldType) : Bool := match kd, ty with
  | 0, .int => true
  | 1, .boolean => true
  | 2, .object _ => true
  | 2, .array _ => true
  | _, _ => false
def sk_putf (y : Nat) (i : Instr) (a b kd : Nat) : Bool := match i with
  | .putfield idx => decide (jv_fld (sow y) idx = some (a, b) ∧ ((jv_fT a b).2.2.2 = false ∨ (sini y = true ∧ a = sow y))) && pv_k kd (jv_fty a b)
  | _ => false
def sk_goto (pc : Nat) (i : Instr) (a : Nat) : Bool := match i with
  | .goto off => decide ((pc : Int) + off = (a : Int))
  | _ => false
def sk_if (pc : Nat) (i : Instr) (a b : Nat) : Bool := match i with
  | .ifCond c off => decide (s_ccn c = a ∧ (pc : Int) + off = (b : Int))
  | _ => false
def sk_icmp (pc : Nat) (i : Instr) (a b : Nat) : Bool := match i with
  | .if_icmp c off => decide (s_ccn c = a ∧ (pc : Int) + off = (b : Int))
  | _ => false
def sk_new (y : Nat) (i : Instr) (a : Nat) : Bool := match i with
  | .new idx => decide (jv_new (sow y) idx = some a ∧ a < 9)
  | _ => false
def sk_newa (i : Instr) (a : Nat) : Bool := match i with
  | .newarray .int => decide (a = 0)
  | .newarray .boolean => decide (a = 1)
  | _ => false
def sk_anew (y : Nat) (i : Instr) (a : Nat) : Bool := match i with
  | .anewarray idx => decide ((jv_new (sow y) idx = some 6 ∧ a = 2) ∨ (jv_new (sow y) idx = some 5 ∧ a = 3))
  | _ => false
def sk_call (y : Nat) (i : Instr) (a b : Nat) : Bool := match jv_isC i, jv_inf y, jv_inf a with
  | some (ck, idx), some (ow, _, _, _, fr, lo), some (ow2, kd2, na2, mL2, fr2, lo2) => decide (jv_cal ow idx = some (a, na2, ((jv_cal ow idx).getD (0, 0, 0)).2.2) ∧ a < 272 ∧ ck = kd2 ∧ b = na2 + 16 * mL2 + 1024 * (if kd2 = 0 then 0 else ow2 + 1) ∧ na2 < 16 ∧ mL2 < 64 ∧ na2 ≤ mL2 ∧ (kd2 = 0 ∨ 1 ≤ na2) ∧ fr2 + 1 ≤ fr ∧ 19 + mL2 + lo2 ≤ lo)
  | _, _, _ => false
def sk_spec (y : Nat) (i : Instr) (z ck fr0 lo0 : Nat) : Bool := match jv_isC i, jv_inf y with
  | some (ck1, idx), some (ow, _, _, _, fr, lo) => match jv_cal ow idx with
    | some (z1, _, _) => decide (z1 = z ∧ ck1 = ck ∧ fr0 ≤ fr ∧ lo0 ≤ lo)
    | none => false
  | _, _ => false
def sk_r0 (i : Instr) (rt : Option FieldType) : Bool := match i, rt with
  | .return_, none => true
  | _, _ => false
def sk_r1 (i : Instr) (rt : Option FieldType) : Bool := match i, rt with
  | .ireturn, some .int => true
  | _, _ => false
def sk_r2 (i : Instr) (rt : Option FieldType) : Bool := match i, rt with
  | .ireturn, some .boolean => true
  | _, _ => false
def sk_r3 (i : Instr) (rt : Option FieldType) : Bool := match i, rt with
  | .areturn, some (.object _) => true
  | _, _ => false
def sk_r4 (i : Instr) (rt : Option FieldType) : Bool := match i, rt with
  | .freturn, some .float => true
  | _, _ => false
def sk_r5 (i : Instr) (rt : Option FieldType) : Bool := match i, rt with
  | .dreturn, some .double => true
  | _, _ => false
def sk_ret (y : Nat) (i : Instr) (kd : Nat) : Bool := match kd with
  | 0 => sk_r0 i (jv_ym y).2.2
  | 1 => sk_r1 i (jv_ym y).2.2
  | 2 => sk_r2 i (jv_ym y).2.2
  | 3 => sk_r3 i (jv_ym y).2.2
  | 4 => sk_r4 i (jv_ym y).2.2
  | _ => sk_r5 i (jv_ym y).2.2
def sk_tab (pc : Nat) (i : Instr) (a : Nat) : Bool := match i with
  | .tableswitch d lo hi offs => decide (a = pc ∧ 0 ≤ (pc : Int) + d ∧ -2147483648 ≤ lo ∧ lo < 2147483648 ∧ -2147483648 ≤ hi ∧ hi < 2147483648) && offs.toList.all (fun off => decide (0 ≤ (pc : Int) + off))
  | _ => false
def sk_lsw (pc : Nat) (i : Instr) (a : Nat) : Bool := match i with
  | .lookupswitch d ps => decide (a = pc ∧ 0 ≤ (pc : Int) + d ∧ 0 < ps.toList.length) && ((ps.toList.zip (ps.toList.drop 1)).all (fun (a, next) => a.1 < next.1) && ps.toList.all (fun p => decide (0 ≤ (pc : Int) + p.2 ∧ -2147483648 ≤ p.1 ∧ p.1 < 2147483648)))
  | _ => false
def sk_pure (pc : Nat) (i : Instr) (a b : Nat) : Bool := match i with
  | .fconst _ => decide (a = pc ∧ b = 0)
  | .dconst _ => decide (a = pc ∧ b = 0)
  | .i2f => decide (a = pc ∧ b = 1)
  | .i2d => decide (a = pc ∧ b = 1)
  | .f2d => decide (a = pc ∧ b = 1)
  | .fdiv => decide (a = pc ∧ b = 2)
  | .ddiv => decide (a = pc ∧ b = 2)
  | .dcmp _ => decide (a = pc ∧ b = 2)
  | _ => false
def sk_ldc (y : Nat) (i : Instr) (a kd : Nat) : Bool := match i with
  | .ldc idx => match jv_ldc (sow y) idx, kd with
    | some (.int w), 0 => decide (w = Int32.ofNat a ∧ a < sM)
    | some (.ref p), 1 => decide (a = sREF + p ∧ p < sM)
    | _, _ => false
  | _ => false
def sk1 (y pc : Nat) (i : Instr) (op a b : Nat) : Bool := match op with
  | 0 => sk_const i a
  | 1 => sk_iload i a
  | 2 => sk_aload i a
  | 3 => sk_dload i a
  | 4 => sk_istore i a
  | 5 => sk_astore i a
  | 6 => sk_dstore i a
  | 7 => sk_iinc i a b
  | 8 => sk_getf y i a b
  | 9 => sk_putf y i a b 0
  | 10 => sk_putf y i a b 1
  | 11 => sk_putf y i a b 2
  | 12 => sk_goto pc i a
  | 13 => sk_if pc i a b
  | 14 => sk_icmp pc i a b
  | 15 => decide (i = .iadd)
  | 16 => decide (i = .isub)
  | 17 => decide (i = .imul)
  | 18 => decide (i = .idiv)
  | 19 => decide (i = .irem)
  | 20 => decide (i = .iand)
  | 21 => decide (i = .ishr)
  | 22 => decide (i = .ixor)
  | 23 => decide (i = .iaload)
  | 24 => decide (i = .baload)
  | 25 => decide (i = .aaload)
  | 26 => decide (i = .iastore)
  | 27 => decide (i = .bastore)
  | 28 => decide (i = .aastore)
  | 29 => decide (i = .arraylength)
  | 30 => sk_new y i a
  | 31 => sk_newa i a
  | 32 => sk_anew y i a
  | 33 => decide (i = .dup)
  | 34 => decide (i = .dup2)
  | 35 => decide (i = .pop)
  | 36 => sk_call y i a b
  | 37 => sk_spec y i 900 2 1 20
  | 38 => sk_spec y i 901 1 2 40
  | 39 => sk_spec y i 902 1 6 120
  | 40 => sk_ret y i 0
  | 41 => sk_ret y i 1
  | 42 => sk_ret y i 2
  | 43 => sk_ret y i 3
  | 44 => sk_ret y i 4
  | 45 => sk_ret y i 5
  | 46 => sk_tab pc i a
  | 47 => sk_pure pc i a b
  | 48 => sk_ldc y i a 0
  | 49 => sk_ldc y i a 1
  | 50 => sk_lsw pc i a
  | _ => true
def s_k (y pc : Nat) (e : sI) : Bool := match jv_code y pc with
  | some (i, len) => Nat.beq len e.2.2.2 && sk1 y pc i e.1 e.2.1 e.2.2.1
  | none => false
def s_ok (y : Nat) : Nat → List sI → Bool
  | _, [] => true
  | pc, e :: t => s_k y pc e && s_ok y (pc + e.2.2.2) t
theorem s_find_ok {y tgt : Nat} {cl : List sI} : ∀ (l : List sI) (pc : Nat), s_ok y pc l = true → s_find l pc tgt = some cl → s_ok y tgt cl = true
  | [], pc, _, h => by cases h
  | e :: t, pc, h1, h2 => by
    have h3 : cond (Nat.beq pc tgt) (some (e :: t)) (s_find t (pc + e.2.2.2) tgt) = some cl := h2
    cases hq : Nat.beq pc tgt with
    | true =>
      rw [hq] at h3
      cases h3
      rw [← b_eq hq]
      exact h1
    | false =>
      rw [hq] at h3
      exact s_find_ok t _ (s_and h1).2 h3
end
section
theorem sk_m0 : s_ok 0 0 sc_0 = true := by decide +kernel
theorem sk_m1 : s_ok 1 0 sc_1 = true := by decide +kernel
theorem sk_m2 : s_ok 2 0 sc_2 = true := by decide +kernel
theorem sk_m3 : s_ok 3 0 sc_3 = true := by decide +kernel
theorem sk_m4 : s_ok 4 0 sc_4 = true := by decide +kernel
theorem sk_m5 : s_ok 5 0 sc_5 = true := by decide +kernel
theorem sk_m6 : s_ok 6 0 sc_6 = true := by decide +kernel
theorem sk_m7 : s_ok 7 0 sc_7 = true := by decide +kernel
theorem sk_m8 : s_ok 8 0 sc_8 = true := by decide +kernel
theorem sk_m9 : s_ok 9 0 sc_9 = true := by decide +kernel
theorem sk_m10 : s_ok 10 0 sc_10 = true := by decide +kernel
theorem sk_m11 : s_ok 11 0 sc_11 = true := by decide +kernel
theorem sk_m12 : s_ok 12 0 sc_12 = true := by decide +kernel
theorem sk_m13 : s_ok 13 0 sc_13 = true := by decide +kernel
theorem sk_m14 : s_ok 14 0 sc_14 = true := by decide +kernel
theorem sk_m15 : s_ok 15 0 sc_15 = true := by decide +kernel
theorem sk_m16 : s_ok 16 0 sc_16 = true := by decide +kernel
theorem sk_m17 : s_ok 17 0 sc_17 = true := by decide +kernel
theorem sk_m18 : s_ok 18 0 sc_18 = true := by decide +kernel
theorem sk_m19 : s_ok 19 0 sc_19 = true := by decide +kernel
theorem sk_m20 : s_ok 20 0 sc_20 = true := by decide +kernel
theorem sk_m21 : s_ok 21 0 sc_21 = true := by decide +kernel
theorem sk_m22 : s_ok 22 0 sc_22 = true := by decide +kernel
theorem sk_m23 : s_ok 23 0 sc_23 = true := by decide +kernel
theorem sk_m24 : s_ok 24 0 sc_24 = true := by decide +kernel
theorem sk_m25 : s_ok 25 0 sc_25 = true := by decide +kernel
theorem sk_m26 : s_ok 26 0 sc_26 = true := by decide +kernel
theorem sk_m27 : s_ok 27 0 sc_27 = true := by decide +kernel
theorem sk_m28 : s_ok 28 0 sc_28 = true := by decide +kernel
theorem sk_m29 : s_ok 29 0 sc_29 = true := by decide +kernel
theorem sk_m30 : s_ok 30 0 sc_30 = true := by decide +kernel
theorem sk_m31 : s_ok 31 0 sc_31 = true := by decide +kernel
theorem sk_m32 : s_ok 32 0 sc_32 = true := by decide +kernel
theorem sk_m33 : s_ok 33 0 sc_33 = true := by decide +kernel
theorem sk_m34 : s_ok 34 0 sc_34 = true := by decide +kernel
theorem sk_m35 : s_ok 35 0 sc_35 = true := by decide +kernel
theorem sk_m36 : s_ok 36 0 sc_36 = true := by decide +kernel
theorem sk_m37 : s_ok 37 0 sc_37 = true := by decide +kernel
theorem sk_m38 : s_ok 38 0 sc_38 = true := by decide +kernel
theorem sk_m39 : s_ok 39 0 sc_39 = true := by decide +kernel
theorem sk_m40 : s_ok 40 0 sc_40 = true := by decide +kernel
theorem sk_m41 : s_ok 41 0 sc_41 = true := by decide +kernel
theorem sk_m42 : s_ok 42 0 sc_42 = true := by decide +kernel
theorem sk_m43 : s_ok 43 0 sc_43 = true := by decide +kernel
theorem sk_m44 : s_ok 44 0 sc_44 = true := by decide +kernel
theorem sk_m45 : s_ok 45 0 sc_45 = true := by decide +kernel
theorem sk_m46 : s_ok 46 0 sc_46 = true := by decide +kernel
theorem sk_m47 : s_ok 47 0 sc_47 = true := by decide +kernel
theorem sk_m48 : s_ok 48 0 sc_48 = true := by decide +kernel
theorem sk_m49 : s_ok 49 0 sc_49 = true := by decide +kernel
theorem sk_m50 : s_ok 50 0 sc_50 = true := by decide +kernel
theorem sk_m51 : s_ok 51 0 sc_51 = true := by decide +kernel
theorem sk_m52 : s_ok 52 0 sc_52 = true := by decide +kernel
theorem sk_m53 : s_ok 53 0 sc_53 = true := by decide +kernel
theorem sk_m54 : s_ok 54 0 sc_54 = true := by decide +kernel
theorem sk_m55 : s_ok 55 0 sc_55 = true := by decide +kernel
theorem sk_m56 : s_ok 56 0 sc_56 = true := by decide +kernel
theorem sk_m57 : s_ok 57 0 sc_57 = true := by decide +kernel
theorem sk_m58 : s_ok 58 0 sc_58 = true := by decide +kernel
theorem sk_m59 : s_ok 59 0 sc_59 = true := by decide +kernel
theorem sk_m60 : s_ok 60 0 sc_60 = true := by decide +kernel
theorem sk_m61 : s_ok 61 0 sc_61 = true := by decide +kernel
theorem sk_m62 : s_ok 62 0 sc_62 = true := by decide +kernel
theorem sk_m63 : s_ok 63 0 sc_63 = true := by decide +kernel
theorem sk_m64 : s_ok 64 0 sc_64 = true := by decide +kernel
theorem sk_m65 : s_ok 65 0 sc_65 = true := by decide +kernel
theorem sk_m66 : s_ok 66 0 sc_66 = true := by decide +kernel
theorem sk_m67 : s_ok 67 0 sc_67 = true := by decide +kernel
theorem sk_m68 : s_ok 68 0 sc_68 = true := by decide +kernel
theorem sk_m69 : s_ok 69 0 sc_69 = true := by decide +kernel
theorem sk_m70 : s_ok 70 0 sc_70 = true := by decide +kernel
theorem sk_m71 : s_ok 71 0 sc_71 = true := by decide +kernel
theorem sk_m72 : s_ok 72 0 sc_72 = true := by decide +kernel
theorem sk_m73 : s_ok 73 0 sc_73 = true := by decide +kernel
theorem sk_m74 : s_ok 74 0 sc_74 = true := by decide +kernel
theorem sk_m75 : s_ok 75 0 sc_75 = true := by decide +kernel
theorem sk_m76 : s_ok 76 0 sc_76 = true := by decide +kernel
theorem sk_m77 : s_ok 77 0 sc_77 = true := by decide +kernel
theorem sk_m78 : s_ok 78 0 sc_78 = true := by decide +kernel
theorem sk_m79 : s_ok 79 0 sc_79 = true := by decide +kernel
theorem sk_m80 : s_ok 80 0 sc_80 = true := by decide +kernel
theorem sk_m81 : s_ok 81 0 sc_81 = true := by decide +kernel
theorem sk_m82 : s_ok 82 0 sc_82 = true := by decide +kernel
theorem sk_m83 : s_ok 83 0 sc_83 = true := by decide +kernel
theorem sk_m84 : s_ok 84 0 sc_84 = true := by decide +kernel
theorem sk_m85 : s_ok 85 0 sc_85 = true := by decide +kernel
theorem sk_m86 : s_ok 86 0 sc_86 = true := by decide +kernel
theorem sk_m87 : s_ok 87 0 sc_87 = true := by decide +kernel
theorem sk_m88 : s_ok 88 0 sc_88 = true := by decide +kernel
theorem sk_m89 : s_ok 89 0 sc_89 = true := by decide +kernel
theorem sk_m90 : s_ok 90 0 sc_90 = true := by decide +kernel
theorem sk_m91 : s_ok 91 0 sc_91 = true := by decide +kernel
theorem sk_m92 : s_ok 92 0 sc_92 = true := by decide +kernel
theorem sk_m93 : s_ok 93 0 sc_93 = true := by decide +kernel
theorem sk_m94 : s_ok 94 0 sc_94 = true := by decide +kernel
theorem sk_m95 : s_ok 95 0 sc_95 = true := by decide +kernel
theorem sk_m96 : s_ok 96 0 sc_96 = true := by decide +kernel
theorem sk_m97 : s_ok 97 0 sc_97 = true := by decide +kernel
theorem sk_m98 : s_ok 98 0 sc_98 = true := by decide +kernel
theorem sk_m99 : s_ok 99 0 sc_99 = true := by decide +kernel
theorem sk_m100 : s_ok 100 0 sc_100 = true := by decide +kernel
theorem sk_m101 : s_ok 101 0 sc_101 = true := by decide +kernel
theorem sk_m102 : s_ok 102 0 sc_102 = true := by decide +kernel
theorem sk_m103 : s_ok 103 0 sc_103 = true := by decide +kernel
theorem sk_m104 : s_ok 104 0 sc_104 = true := by decide +kernel
theorem sk_m105 : s_ok 105 0 sc_105 = true := by decide +kernel
theorem sk_m106 : s_ok 106 0 sc_106 = true := by decide +kernel
theorem sk_m107 : s_ok 107 0 sc_107 = true := by decide +kernel
theorem sk_m108 : s_ok 108 0 sc_108 = true := by decide +kernel
theorem sk_m109 : s_ok 109 0 sc_109 = true := by decide +kernel
theorem sk_m110 : s_ok 110 0 sc_110 = true := by decide +kernel
theorem sk_m111 : s_ok 111 0 sc_111 = true := by decide +kernel
theorem sk_m112 : s_ok 112 0 sc_112 = true := by decide +kernel
theorem sk_m113 : s_ok 113 0 sc_113 = true := by decide +kernel
theorem sk_m114 : s_ok 114 0 sc_114 = true := by decide +kernel
theorem sk_m115 : s_ok 115 0 sc_115 = true := by decide +kernel
theorem sk_m116 : s_ok 116 0 sc_116 = true := by decide +kernel
theorem sk_m117 : s_ok 117 0 sc_117 = true := by decide +kernel
theorem sk_m118 : s_ok 118 0 sc_118 = true := by decide +kernel
theorem sk_m119 : s_ok 119 0 sc_119 = true := by decide +kernel
theorem sk_m120 : s_ok 120 0 sc_120 = true := by decide +kernel
theorem sk_m121 : s_ok 121 0 sc_121 = true := by decide +kernel
theorem sk_m122 : s_ok 122 0 sc_122 = true := by decide +kernel
theorem sk_m123 : s_ok 123 0 sc_123 = true := by decide +kernel
theorem sk_m124 : s_ok 124 0 sc_124 = true := by decide +kernel
theorem sk_m125 : s_ok 125 0 sc_125 = true := by decide +kernel
theorem sk_m126 : s_ok 126 0 sc_126 = true := by decide +kernel
theorem sk_m127 : s_ok 127 0 sc_127 = true := by decide +kernel
theorem sk_m128 : s_ok 128 0 sc_128 = true := by decide +kernel
theorem sk_m129 : s_ok 129 0 sc_129 = true := by decide +kernel
theorem sk_m130 : s_ok 130 0 sc_130 = true := by decide +kernel
theorem sk_m131 : s_ok 131 0 sc_131 = true := by decide +kernel
theorem sk_m132 : s_ok 132 0 sc_132 = true := by decide +kernel
theorem sk_m133 : s_ok 133 0 sc_133 = true := by decide +kernel
theorem sk_m134 : s_ok 134 0 sc_134 = true := by decide +kernel
theorem sk_m135 : s_ok 135 0 sc_135 = true := by decide +kernel
theorem sk_m136 : s_ok 136 0 sc_136 = true := by decide +kernel
theorem sk_m137 : s_ok 137 0 sc_137 = true := by decide +kernel
theorem sk_m138 : s_ok 138 0 sc_138 = true := by decide +kernel
theorem sk_m139 : s_ok 139 0 sc_139 = true := by decide +kernel
theorem sk_m140 : s_ok 140 0 sc_140 = true := by decide +kernel
theorem sk_m141 : s_ok 141 0 sc_141 = true := by decide +kernel
theorem sk_m142 : s_ok 142 0 sc_142 = true := by decide +kernel
theorem sk_m143 : s_ok 143 0 sc_143 = true := by decide +kernel
theorem sk_m144 : s_ok 144 0 sc_144 = true := by decide +kernel
theorem sk_m145 : s_ok 145 0 sc_145 = true := by decide +kernel
theorem sk_m146 : s_ok 146 0 sc_146 = true := by decide +kernel
theorem sk_m147 : s_ok 147 0 sc_147 = true := by decide +kernel
theorem sk_m148 : s_ok 148 0 sc_148 = true := by decide +kernel
theorem sk_m149 : s_ok 149 0 sc_149 = true := by decide +kernel
theorem sk_m150 : s_ok 150 0 sc_150 = true := by decide +kernel
theorem sk_m151 : s_ok 151 0 sc_151 = true := by decide +kernel
theorem sk_m152 : s_ok 152 0 sc_152 = true := by decide +kernel
theorem sk_m153 : s_ok 153 0 sc_153 = true := by decide +kernel
theorem sk_m154 : s_ok 154 0 sc_154 = true := by decide +kernel
theorem sk_m155 : s_ok 155 0 sc_155 = true := by decide +kernel
theorem sk_m156 : s_ok 156 0 sc_156 = true := by decide +kernel
theorem sk_m157 : s_ok 157 0 sc_157 = true := by decide +kernel
theorem sk_m158 : s_ok 158 0 sc_158 = true := by decide +kernel
theorem sk_m159 : s_ok 159 0 sc_159 = true := by decide +kernel
theorem sk_m160 : s_ok 160 0 sc_160 = true := by decide +kernel
theorem sk_m161 : s_ok 161 0 sc_161 = true := by decide +kernel
theorem sk_m162 : s_ok 162 0 sc_162 = true := by decide +kernel
theorem sk_m163 : s_ok 163 0 sc_163 = true := by decide +kernel
theorem sk_m164 : s_ok 164 0 sc_164 = true := by decide +kernel
theorem sk_m165 : s_ok 165 0 sc_165 = true := by decide +kernel
theorem sk_m166 : s_ok 166 0 sc_166 = true := by decide +kernel
theorem sk_m167 : s_ok 167 0 sc_167 = true := by decide +kernel
theorem sk_m168 : s_ok 168 0 sc_168 = true := by decide +kernel
theorem sk_m169 : s_ok 169 0 sc_169 = true := by decide +kernel
theorem sk_m170 : s_ok 170 0 sc_170 = true := by decide +kernel
theorem sk_m171 : s_ok 171 0 sc_171 = true := by decide +kernel
theorem sk_m172 : s_ok 172 0 sc_172 = true := by decide +kernel
theorem sk_m173 : s_ok 173 0 sc_173 = true := by decide +kernel
theorem sk_m174 : s_ok 174 0 sc_174 = true := by decide +kernel
theorem sk_m175 : s_ok 175 0 sc_175 = true := by decide +kernel
theorem sk_m176 : s_ok 176 0 sc_176 = true := by decide +kernel
theorem sk_m177 : s_ok 177 0 sc_177 = true := by decide +kernel
theorem sk_m178 : s_ok 178 0 sc_178 = true := by decide +kernel
theorem sk_m179 : s_ok 179 0 sc_179 = true := by decide +kernel
theorem sk_m180 : s_ok 180 0 sc_180 = true := by decide +kernel
theorem sk_m181 : s_ok 181 0 sc_181 = true := by decide +kernel
theorem sk_m182 : s_ok 182 0 sc_182 = true := by decide +kernel
theorem sk_m183 : s_ok 183 0 sc_183 = true := by decide +kernel
theorem sk_m184 : s_ok 184 0 sc_184 = true := by decide +kernel
theorem sk_m185 : s_ok 185 0 sc_185 = true := by decide +kernel
theorem sk_m186 : s_ok 186 0 sc_186 = true := by decide +kernel
theorem sk_m187 : s_ok 187 0 sc_187 = true := by decide +kernel
theorem sk_m188 : s_ok 188 0 sc_188 = true := by decide +kernel
theorem sk_m189 : s_ok 189 0 sc_189 = true := by decide +kernel
theorem sk_m190 : s_ok 190 0 sc_190 = true := by decide +kernel
theorem sk_m191 : s_ok 191 0 sc_191 = true := by decide +kernel
theorem sk_m192 : s_ok 192 0 sc_192 = true := by decide +kernel
theorem sk_m193 : s_ok 193 0 sc_193 = true := by decide +kernel
theorem sk_m194 : s_ok 194 0 sc_194 = true := by decide +kernel
theorem sk_m195 : s_ok 195 0 sc_195 = true := by decide +kernel
theorem sk_m196 : s_ok 196 0 sc_196 = true := by decide +kernel
theorem sk_m197 : s_ok 197 0 sc_197 = true := by decide +kernel
theorem sk_m198 : s_ok 198 0 sc_198 = true := by decide +kernel
theorem sk_m199 : s_ok 199 0 sc_199 = true := by decide +kernel
theorem sk_m200 : s_ok 200 0 sc_200 = true := by decide +kernel
theorem sk_m201 : s_ok 201 0 sc_201 = true := by decide +kernel
theorem sk_m202 : s_ok 202 0 sc_202 = true := by decide +kernel
theorem sk_m203 : s_ok 203 0 sc_203 = true := by decide +kernel
theorem sk_m204 : s_ok 204 0 sc_204 = true := by decide +kernel
theorem sk_m205 : s_ok 205 0 sc_205 = true := by decide +kernel
theorem sk_m206 : s_ok 206 0 sc_206 = true := by decide +kernel
theorem sk_m207 : s_ok 207 0 sc_207 = true := by decide +kernel
theorem sk_m208 : s_ok 208 0 sc_208 = true := by decide +kernel
theorem sk_m209 : s_ok 209 0 sc_209 = true := by decide +kernel
theorem sk_m210 : s_ok 210 0 sc_210 = true := by decide +kernel
theorem sk_m211 : s_ok 211 0 sc_211 = true := by decide +kernel
theorem sk_m212 : s_ok 212 0 sc_212 = true := by decide +kernel
theorem sk_m213 : s_ok 213 0 sc_213 = true := by decide +kernel
theorem sk_m214 : s_ok 214 0 sc_214 = true := by decide +kernel
theorem sk_m215 : s_ok 215 0 sc_215 = true := by decide +kernel
theorem sk_m216 : s_ok 216 0 sc_216 = true := by decide +kernel
theorem sk_m217 : s_ok 217 0 sc_217 = true := by decide +kernel
theorem sk_m218 : s_ok 218 0 sc_218 = true := by decide +kernel
theorem sk_m219 : s_ok 219 0 sc_219 = true := by decide +kernel
theorem sk_m220 : s_ok 220 0 sc_220 = true := by decide +kernel
theorem sk_m221 : s_ok 221 0 sc_221 = true := by decide +kernel
theorem sk_m222 : s_ok 222 0 sc_222 = true := by decide +kernel
theorem sk_m223 : s_ok 223 0 sc_223 = true := by decide +kernel
theorem sk_m224 : s_ok 224 0 sc_224 = true := by decide +kernel
theorem sk_m225 : s_ok 225 0 sc_225 = true := by decide +kernel
theorem sk_m226 : s_ok 226 0 sc_226 = true := by decide +kernel
theorem sk_m227 : s_ok 227 0 sc_227 = true := by decide +kernel
theorem sk_m228 : s_ok 228 0 sc_228 = true := by decide +kernel
theorem sk_m229 : s_ok 229 0 sc_229 = true := by decide +kernel
theorem sk_m230 : s_ok 230 0 sc_230 = true := by decide +kernel
theorem sk_m231 : s_ok 231 0 sc_231 = true := by decide +kernel
theorem sk_m232 : s_ok 232 0 sc_232 = true := by decide +kernel
theorem sk_m233 : s_ok 233 0 sc_233 = true := by decide +kernel
theorem sk_m234 : s_ok 234 0 sc_234 = true := by decide +kernel
theorem sk_m235 : s_ok 235 0 sc_235 = true := by decide +kernel
theorem sk_m236 : s_ok 236 0 sc_236 = true := by decide +kernel
theorem sk_m237 : s_ok 237 0 sc_237 = true := by decide +kernel
theorem sk_m238 : s_ok 238 0 sc_238 = true := by decide +kernel
theorem sk_m239 : s_ok 239 0 sc_239 = true := by decide +kernel
theorem sk_m240 : s_ok 240 0 sc_240 = true := by decide +kernel
theorem sk_m241 : s_ok 241 0 sc_241 = true := by decide +kernel
theorem sk_m242 : s_ok 242 0 sc_242 = true := by decide +kernel
theorem sk_m243 : s_ok 243 0 sc_243 = true := by decide +kernel
theorem sk_m244 : s_ok 244 0 sc_244 = true := by decide +kernel
theorem sk_m245 : s_ok 245 0 sc_245 = true := by decide +kernel
theorem sk_m246 : s_ok 246 0 sc_246 = true := by decide +kernel
theorem sk_m247 : s_ok 247 0 sc_247 = true := by decide +kernel
theorem sk_m248 : s_ok 248 0 sc_248 = true := by decide +kernel
theorem sk_m249 : s_ok 249 0 sc_249 = true := by decide +kernel
theorem sk_m250 : s_ok 250 0 sc_250 = true := by decide +kernel
theorem sk_m251 : s_ok 251 0 sc_251 = true := by decide +kernel
theorem sk_m252 : s_ok 252 0 sc_252 = true := by decide +kernel
theorem sk_m253 : s_ok 253 0 sc_253 = true := by decide +kernel
theorem sk_m254 : s_ok 254 0 sc_254 = true := by decide +kernel
theorem sk_m255 : s_ok 255 0 sc_255 = true := by decide +kernel
theorem sk_m256 : s_ok 256 0 sc_256 = true := by decide +kernel
theorem sk_m257 : s_ok 257 0 sc_257 = true := by decide +kernel
theorem sk_m258 : s_ok 258 0 sc_258 = true := by decide +kernel
theorem sk_m259 : s_ok 259 0 sc_259 = true := by decide +kernel
theorem sk_m260 : s_ok 260 0 sc_260 = true := by decide +kernel
theorem sk_m261 : s_ok 261 0 sc_261 = true := by decide +kernel
theorem sk_m262 : s_ok 262 0 sc_262 = true := by decide +kernel
theorem sk_m263 : s_ok 263 0 sc_263 = true := by decide +kernel
theorem sk_m264 : s_ok 264 0 sc_264 = true := by decide +kernel
theorem sk_m265 : s_ok 265 0 sc_265 = true := by decide +kernel
theorem sk_m266 : s_ok 266 0 sc_266 = true := by decide +kernel
theorem sk_m267 : s_ok 267 0 sc_267 = true := by decide +kernel
theorem sk_m268 : s_ok 268 0 sc_268 = true := by decide +kernel
theorem sk_m269 : s_ok 269 0 sc_269 = true := by decide +kernel
theorem sk_m270 : s_ok 270 0 sc_270 = true := by decide +kernel
theorem sk_m271 : s_ok 271 0 sc_271 = true := by decide +kernel
theorem sc_kg0 : ∀ k, k < 16 → s_ok (0 + k) 0 (s_at [] sc_g0 k) = true := by
  intro k hk
  match k, hk with
  | 0, _ => exact sk_m0
  | 1, _ => exact sk_m1
  | 2, _ => exact sk_m2
  | 3, _ => exact sk_m3
  | 4, _ => exact sk_m4
  | 5, _ => exact sk_m5
  | 6, _ => exact sk_m6
  | 7, _ => exact sk_m7
  | 8, _ => exact sk_m8
  | 9, _ => exact sk_m9
  | 10, _ => exact sk_m10
  | 11, _ => exact sk_m11
  | 12, _ => exact sk_m12
  | 13, _ => exact sk_m13
  | 14, _ => exact sk_m14
  | 15, _ => exact sk_m15
  | k + 16, hk => omega
theorem sc_kg1 : ∀ k, k < 16 → s_ok (16 + k) 0 (s_at [] sc_g1 k) = true := by
  intro k hk
  match k, hk with
  | 0, _ => exact sk_m16
  | 1, _ => exact sk_m17
  | 2, _ => exact sk_m18
  | 3, _ => exact sk_m19
  | 4, _ => exact sk_m20
  | 5, _ => exact sk_m21
  | 6, _ => exact sk_m22
  | 7, _ => exact sk_m23
  | 8, _ => exact sk_m24
  | 9, _ => exact sk_m25
  | 10, _ => exact sk_m26
  | 11, _ => exact sk_m27
  | 12, _ => exact sk_m28
  | 13, _ => exact sk_m29
  | 14, _ => exact sk_m30
  | 15, _ => exact sk_m31
  | k + 16, hk => omega
theorem sc_kg2 : ∀ k, k < 16 → s_ok (32 + k) 0 (s_at [] sc_g2 k) = true := by
  intro k hk
  match k, hk with
  | 0, _ => exact sk_m32
  | 1, _ => exact sk_m33
  | 2, _ => exact sk_m34
  | 3, _ => exact sk_m35
  | 4, _ => exact sk_m36
  | 5, _ => exact sk_m37
  | 6, _ => exact sk_m38
  | 7, _ => exact sk_m39
  | 8, _ => exact sk_m40
  | 9, _ => exact sk_m41
  | 10, _ => exact sk_m42
  | 11, _ => exact sk_m43
  | 12, _ => exact sk_m44
  | 13, _ => exact sk_m45
  | 14, _ => exact sk_m46
  | 15, _ => exact sk_m47
  | k + 16, hk => omega
theorem sc_kg3 : ∀ k, k < 16 → s_ok (48 + k) 0 (s_at [] sc_g3 k) = true := by
  intro k hk
  match k, hk with
  | 0, _ => exact sk_m48
  | 1, _ => exact sk_m49
  | 2, _ => exact sk_m50
  | 3, _ => exact sk_m51
  | 4, _ => exact sk_m52
  | 5, _ => exact sk_m53
  | 6, _ => exact sk_m54
  | 7, _ => exact sk_m55
  | 8, _ => exact sk_m56
  | 9, _ => exact sk_m57
  | 10, _ => exact sk_m58
  | 11, _ => exact sk_m59
  | 12, _ => exact sk_m60
  | 13, _ => exact sk_m61
  | 14, _ => exact sk_m62
  | 15, _ => exact sk_m63
  | k + 16, hk => omega
theorem sc_kg4 : ∀ k, k < 16 → s_ok (64 + k) 0 (s_at [] sc_g4 k) = true := by
  intro k hk
  match k, hk with
  | 0, _ => exact sk_m64
  | 1, _ => exact sk_m65
  | 2, _ => exact sk_m66
  | 3, _ => exact sk_m67
  | 4, _ => exact sk_m68
  | 5, _ => exact sk_m69
  | 6, _ => exact sk_m70
  | 7, _ => exact sk_m71
  | 8, _ => exact sk_m72
  | 9, _ => exact sk_m73
  | 10, _ => exact sk_m74
  | 11, _ => exact sk_m75
  | 12, _ => exact sk_m76
  | 13, _ => exact sk_m77
  | 14, _ => exact sk_m78
  | 15, _ => exact sk_m79
  | k + 16, hk => omega
theorem sc_kg5 : ∀ k, k < 16 → s_ok (80 + k) 0 (s_at [] sc_g5 k) = true := by
  intro k hk
  match k, hk with
  | 0, _ => exact sk_m80
  | 1, _ => exact sk_m81
  | 2, _ => exact sk_m82
  | 3, _ => exact sk_m83
  | 4, _ => exact sk_m84
  | 5, _ => exact sk_m85
  | 6, _ => exact sk_m86
  | 7, _ => exact sk_m87
  | 8, _ => exact sk_m88
  | 9, _ => exact sk_m89
  | 10, _ => exact sk_m90
  | 11, _ => exact sk_m91
  | 12, _ => exact sk_m92
  | 13, _ => exact sk_m93
  | 14, _ => exact sk_m94
  | 15, _ => exact sk_m95
  | k + 16, hk => omega
theorem sc_kg6 : ∀ k, k < 16 → s_ok (96 + k) 0 (s_at [] sc_g6 k) = true := by
  intro k hk
  match k, hk with
  | 0, _ => exact sk_m96
  | 1, _ => exact sk_m97
  | 2, _ => exact sk_m98
  | 3, _ => exact sk_m99
  | 4, _ => exact sk_m100
  | 5, _ => exact sk_m101
  | 6, _ => exact sk_m102
  | 7, _ => exact sk_m103
  | 8, _ => exact sk_m104
  | 9, _ => exact sk_m105
  | 10, _ => exact sk_m106
  | 11, _ => exact sk_m107
  | 12, _ => exact sk_m108
  | 13, _ => exact sk_m109
  | 14, _ => exact sk_m110
  | 15, _ => exact sk_m111
  | k + 16, hk => omega
theorem sc_kg7 : ∀ k, k < 16 → s_ok (112 + k) 0 (s_at [] sc_g7 k) = true := by
  intro k hk
  match k, hk with
  | 0, _ => exact sk_m112
  | 1, _ => exact sk_m113
  | 2, _ => exact sk_m114
  | 3, _ => exact sk_m115
  | 4, _ => exact sk_m116
  | 5, _ => exact sk_m117
  | 6, _ => exact sk_m118
  | 7, _ => exact sk_m119
  | 8, _ => exact sk_m120
  | 9, _ => exact sk_m121
  | 10, _ => exact sk_m122
  | 11, _ => exact sk_m123
  | 12, _ => exact sk_m124
  | 13, _ => exact sk_m125
  | 14, _ => exact sk_m126
  | 15, _ => exact sk_m127
  | k + 16, hk => omega
theorem sc_kg8 : ∀ k, k < 16 → s_ok (128 + k) 0 (s_at [] sc_g8 k) = true := by
  intro k hk
  match k, hk with
  | 0, _ => exact sk_m128
  | 1, _ => exact sk_m129
  | 2, _ => exact sk_m130
  | 3, _ => exact sk_m131
  | 4, _ => exact sk_m132
  | 5, _ => exact sk_m133
  | 6, _ => exact sk_m134
  | 7, _ => exact sk_m135
  | 8, _ => exact sk_m136
  | 9, _ => exact sk_m137
  | 10, _ => exact sk_m138
  | 11, _ => exact sk_m139
  | 12, _ => exact sk_m140
  | 13, _ => exact sk_m141
  | 14, _ => exact sk_m142
  | 15, _ => exact sk_m143
  | k + 16, hk => omega
theorem sc_kg9 : ∀ k, k < 16 → s_ok (144 + k) 0 (s_at [] sc_g9 k) = true := by
  intro k hk
  match k, hk with
  | 0, _ => exact sk_m144
  | 1, _ => exact sk_m145
  | 2, _ => exact sk_m146
  | 3, _ => exact sk_m147
  | 4, _ => exact sk_m148
  | 5, _ => exact sk_m149
  | 6, _ => exact sk_m150
  | 7, _ => exact sk_m151
  | 8, _ => exact sk_m152
  | 9, _ => exact sk_m153
  | 10, _ => exact sk_m154
  | 11, _ => exact sk_m155
  | 12, _ => exact sk_m156
  | 13, _ => exact sk_m157
  | 14, _ => exact sk_m158
  | 15, _ => exact sk_m159
  | k + 16, hk => omega
theorem sc_kg10 : ∀ k, k < 16 → s_ok (160 + k) 0 (s_at [] sc_g10 k) = true := by
  intro k hk
  match k, hk with
  | 0, _ => exact sk_m160
  | 1, _ => exact sk_m161
  | 2, _ => exact sk_m162
  | 3, _ => exact sk_m163
  | 4, _ => exact sk_m164
  | 5, _ => exact sk_m165
  | 6, _ => exact sk_m166
  | 7, _ => exact sk_m167
  | 8, _ => exact sk_m168
  | 9, _ => exact sk_m169
  | 10, _ => exact sk_m170
  | 11, _ => exact sk_m171
  | 12, _ => exact sk_m172
  | 13, _ => exact sk_m173
  | 14, _ => exact sk_m174
  | 15, _ => exact sk_m175
  | k + 16, hk => omega
theorem sc_kg11 : ∀ k, k < 16 → s_ok (176 + k) 0 (s_at [] sc_g11 k) = true := by
  intro k hk
  match k, hk with
  | 0, _ => exact sk_m176
  | 1, _ => exact sk_m177
  | 2, _ => exact sk_m178
  | 3, _ => exact sk_m179
  | 4, _ => exact sk_m180
  | 5, _ => exact sk_m181
  | 6, _ => exact sk_m182
  | 7, _ => exact sk_m183
  | 8, _ => exact sk_m184
  | 9, _ => exact sk_m185
  | 10, _ => exact sk_m186
  | 11, _ => exact sk_m187
  | 12, _ => exact sk_m188
  | 13, _ => exact sk_m189
  | 14, _ => exact sk_m190
  | 15, _ => exact sk_m191
  | k + 16, hk => omega
theorem sc_kg12 : ∀ k, k < 16 → s_ok (192 + k) 0 (s_at [] sc_g12 k) = true := by
  intro k hk
  match k, hk with
  | 0, _ => exact sk_m192
  | 1, _ => exact sk_m193
  | 2, _ => exact sk_m194
  | 3, _ => exact sk_m195
  | 4, _ => exact sk_m196
  | 5, _ => exact sk_m197
  | 6, _ => exact sk_m198
  | 7, _ => exact sk_m199
  | 8, _ => exact sk_m200
  | 9, _ => exact sk_m201
  | 10, _ => exact sk_m202
  | 11, _ => exact sk_m203
  | 12, _ => exact sk_m204
  | 13, _ => exact sk_m205
  | 14, _ => exact sk_m206
  | 15, _ => exact sk_m207
  | k + 16, hk => omega
theorem sc_kg13 : ∀ k, k < 16 → s_ok (208 + k) 0 (s_at [] sc_g13 k) = true := by
  intro k hk
  match k, hk with
  | 0, _ => exact sk_m208
  | 1, _ => exact sk_m209
  | 2, _ => exact sk_m210
  | 3, _ => exact sk_m211
  | 4, _ => exact sk_m212
  | 5, _ => exact sk_m213
  | 6, _ => exact sk_m214
  | 7, _ => exact sk_m215
  | 8, _ => exact sk_m216
  | 9, _ => exact sk_m217
  | 10, _ => exact sk_m218
  | 11, _ => exact sk_m219
  | 12, _ => exact sk_m220
  | 13, _ => exact sk_m221
  | 14, _ => exact sk_m222
  | 15, _ => exact sk_m223
  | k + 16, hk => omega
theorem sc_kg14 : ∀ k, k < 16 → s_ok (224 + k) 0 (s_at [] sc_g14 k) = true := by
  intro k hk
  match k, hk with
  | 0, _ => exact sk_m224
  | 1, _ => exact sk_m225
  | 2, _ => exact sk_m226
  | 3, _ => exact sk_m227
  | 4, _ => exact sk_m228
  | 5, _ => exact sk_m229
  | 6, _ => exact sk_m230
  | 7, _ => exact sk_m231
  | 8, _ => exact sk_m232
  | 9, _ => exact sk_m233
  | 10, _ => exact sk_m234
  | 11, _ => exact sk_m235
  | 12, _ => exact sk_m236
  | 13, _ => exact sk_m237
  | 14, _ => exact sk_m238
  | 15, _ => exact sk_m239
  | k + 16, hk => omega
theorem sc_kg15 : ∀ k, k < 16 → s_ok (240 + k) 0 (s_at [] sc_g15 k) = true := by
  intro k hk
  match k, hk with
  | 0, _ => exact sk_m240
  | 1, _ => exact sk_m241
  | 2, _ => exact sk_m242
  | 3, _ => exact sk_m243
  | 4, _ => exact sk_m244
  | 5, _ => exact sk_m245
  | 6, _ => exact sk_m246
  | 7, _ => exact sk_m247
  | 8, _ => exact sk_m248
  | 9, _ => exact sk_m249
  | 10, _ => exact sk_m250
  | 11, _ => exact sk_m251
  | 12, _ => exact sk_m252
  | 13, _ => exact sk_m253
  | 14, _ => exact sk_m254
  | 15, _ => exact sk_m255
  | k + 16, hk => omega
theorem sc_kg16 : ∀ k, k < 16 → s_ok (256 + k) 0 (s_at [] sc_g16 k) = true := by
  intro k hk
  match k, hk with
  | 0, _ => exact sk_m256
  | 1, _ => exact sk_m257
  | 2, _ => exact sk_m258
  | 3, _ => exact sk_m259
  | 4, _ => exact sk_m260
  | 5, _ => exact sk_m261
  | 6, _ => exact sk_m262
  | 7, _ => exact sk_m263
  | 8, _ => exact sk_m264
  | 9, _ => exact sk_m265
  | 10, _ => exact sk_m266
  | 11, _ => exact sk_m267
  | 12, _ => exact sk_m268
  | 13, _ => exact sk_m269
  | 14, _ => exact sk_m270
  | 15, _ => exact sk_m271
  | k + 16, hk => omega
theorem sc_ok (y : Nat) (h : y < 272) : s_ok y 0 (sc_meth y) = true := by
  unfold sc_meth
  by_cases h0 : y < 16
  · have h9 := sc_kg0 (y - 0) (by omega)
    rw [show 0 + (y - 0) = y by omega] at h9
    rw [show y / 16 = 0 by omega, show y % 16 = y - 0 by omega]
    exact h9
  by_cases h1 : y < 32
  · have h9 := sc_kg1 (y - 16) (by omega)
    rw [show 16 + (y - 16) = y by omega] at h9
    rw [show y / 16 = 1 by omega, show y % 16 = y - 16 by omega]
    exact h9
  by_cases h2 : y < 48
  · have h9 := sc_kg2 (y - 32) (by omega)
    rw [show 32 + (y - 32) = y by omega] at h9
    rw [show y / 16 = 2 by omega, show y % 16 = y - 32 by omega]
    exact h9
  by_cases h3 : y < 64
  · have h9 := sc_kg3 (y - 48) (by omega)
    rw [show 48 + (y - 48) = y by omega] at h9
    rw [show y / 16 = 3 by omega, show y % 16 = y - 48 by omega]
    exact h9
  by_cases h4 : y < 80
  · have h9 := sc_kg4 (y - 64) (by omega)
    rw [show 64 + (y - 64) = y by omega] at h9
    rw [show y / 16 = 4 by omega, show y % 16 = y - 64 by omega]
    exact h9
  by_cases h5 : y < 96
  · have h9 := sc_kg5 (y - 80) (by omega)
    rw [show 80 + (y - 80) = y by omega] at h9
    rw [show y / 16 = 5 by omega, show y % 16 = y - 80 by omega]
    exact h9
  by_cases h6 : y < 112
  · have h9 := sc_kg6 (y - 96) (by omega)
    rw [show 96 + (y - 96) = y by omega] at h9
    rw [show y / 16 = 6 by omega, show y % 16 = y - 96 by omega]
    exact h9
  by_cases h7 : y < 128
  · have h9 := sc_kg7 (y - 112) (by omega)
    rw [show 112 + (y - 112) = y by omega] at h9
    rw [show y / 16 = 7 by omega, show y % 16 = y - 112 by omega]
    exact h9
  by_cases h8 : y < 144
  · have h9 := sc_kg8 (y - 128) (by omega)
    rw [show 128 + (y - 128) = y by omega] at h9
    rw [show y / 16 = 8 by omega, show y % 16 = y - 128 by omega]
    exact h9
  by_cases h9 : y < 160
  · have h9 := sc_kg9 (y - 144) (by omega)
    rw [show 144 + (y - 144) = y by omega] at h9
    rw [show y / 16 = 9 by omega, show y % 16 = y - 144 by omega]
    exact h9
  by_cases h10 : y < 176
  · have h9 := sc_kg10 (y - 160) (by omega)
    rw [show 160 + (y - 160) = y by omega] at h9
    rw [show y / 16 = 10 by omega, show y % 16 = y - 160 by omega]
    exact h9
  by_cases h11 : y < 192
  · have h9 := sc_kg11 (y - 176) (by omega)
    rw [show 176 + (y - 176) = y by omega] at h9
    rw [show y / 16 = 11 by omega, show y % 16 = y - 176 by omega]
    exact h9
  by_cases h12 : y < 208
  · have h9 := sc_kg12 (y - 192) (by omega)
    rw [show 192 + (y - 192) = y by omega] at h9
    rw [show y / 16 = 12 by omega, show y % 16 = y - 192 by omega]
    exact h9
  by_cases h13 : y < 224
  · have h9 := sc_kg13 (y - 208) (by omega)
    rw [show 208 + (y - 208) = y by omega] at h9
    rw [show y / 16 = 13 by omega, show y % 16 = y - 208 by omega]
    exact h9
  by_cases h14 : y < 240
  · have h9 := sc_kg14 (y - 224) (by omega)
    rw [show 224 + (y - 224) = y by omega] at h9
    rw [show y / 16 = 14 by omega, show y % 16 = y - 224 by omega]
    exact h9
  by_cases h15 : y < 256
  · have h9 := sc_kg15 (y - 240) (by omega)
    rw [show 240 + (y - 240) = y by omega] at h9
    rw [show y / 16 = 15 by omega, show y % 16 = y - 240 by omega]
    exact h9
  by_cases h16 : y < 272
  · have h9 := sc_kg16 (y - 256) (by omega)
    rw [show 256 + (y - 256) = y by omega] at h9
    rw [show y / 16 = 16 by omega, show y % 16 = y - 256 by omega]
    exact h9
  omega
theorem sc_inf : ∀ y, y < 272 → (jv_inf y).isSome = true := by decide +kernel
end
section
/-! THE S MACHINE STANDS FOR THE J MACHINE: frames, cells, what is left to run -/
abbrev jF : Type := Nat × Nat × List (Option Value) × List Value
/-- with enough fuel it comes to x -/
def jv_ev (y pc : Nat) (Lv : List (Option Value)) (st : List Value) (h : jv_H) (x : Option Value × jv_H) : Prop := ∃ N, ∀ n, N ≤ n → jv_run n y pc Lv st h = some x
/-- the frames run to the law's end, which answers 1 -/
def jv_fin : List jF → Nat → Nat → List (Option Value) → List Value → jv_H → jv_H → Prop
  | [], y, pc, Lv, st, h, h' => jv_ev y pc Lv st h (some (.int 1), h')
  | g :: gs, y, pc, Lv, st, h, h' => ∃ (r : Option Value) (h1 : jv_H), jv_ev y pc Lv st h (r, h1) ∧ jv_fin gs g.1 g.2.1 g.2.2.1 (r.toList ++ g.2.2.2) h1 h'
theorem jv_fin_of {gs : List jF} {y pc y' pc' : Nat} {Lv Lv' : List (Option Value)} {st st' : List Value} {h h1 h' : jv_H} (hs : ∀ x, jv_ev y' pc' Lv' st' h1 x → jv_ev y pc Lv st h x) (hf : jv_fin gs y' pc' Lv' st' h1 h') : jv_fin gs y pc Lv st h h' := by
  cases gs with
  | nil => exact hs _ hf
  | cons g gs =>
    obtain ⟨r, h2, hn, hf⟩ := hf
    exact ⟨r, h2, hs _ hn, hf⟩
def jv_isR (i : Instr) : Bool := match i with
  | .return_ => true
  | .ireturn => true
  | .areturn => true
  | .freturn => true
  | .dreturn => true
  | _ => false
theorem jv_ret_no {rt : Option FieldType} {i : Instr} {st : List Value} (h : jv_isR i = false) : jv_ret rt i st = none := by
  unfold jv_ret
  split <;> first | rfl | cases h
theorem jv_run_step {n y pc pc' : Nat} {Lv Lv' : List (Option Value)} {st st' : List Value} {h h1 : jv_H} {i : Instr} {len ow kd na mL fr lo : Nat} (hinf : jv_inf y = some (ow, kd, na, mL, fr, lo)) (hcode : jv_code y pc = some (i, len)) (hr : jv_isR i = false) (hc : jv_isC i = none) (hs : jv_step ow (decide (kd = 2)) i len pc Lv st h = some (pc', Lv', st', h1)) :
    jv_run (n + 1) y pc Lv st h = jv_run n y pc' Lv' st' h1 := by
  rw [jv_run]
  simp only [hinf, hcode, jv_ret_no hr, hc, hs]
theorem jv_run_ret {n y pc : Nat} {Lv : List (Option Value)} {st : List Value} {h : jv_H} {i : Instr} {len ow kd na mL fr lo : Nat} {r : Option Value} (hinf : jv_inf y = some (ow, kd, na, mL, fr, lo)) (hcode : jv_code y pc = some (i, len)) (hr : jv_ret (jv_ym y).2.2 i st = some r) : jv_run (n + 1) y pc Lv st h = some (r, h) := by
  rw [jv_run]
  simp only [hinf, hcode, hr]
theorem jv_isC_noR {i : Instr} {q : Nat × Nat} (h : jv_isC i = some q) : jv_isR i = false := by
  obtain ⟨ck, idx⟩ := q
  rcases jv_isC_eq h with ⟨-, rfl⟩ | ⟨-, rfl⟩ | ⟨-, rfl⟩ <;> rfl
theorem jv_run_call {n y pc ck idx z na' ne : Nat} {Lv : List (Option Value)} {st : List Value} {h h1 : jv_H} {i : Instr} {len ow kd na mL fr lo : Nat} {q : Nat × Nat × Nat × Nat × Nat × Nat} {r1 : Option Value} (hinf : jv_inf y = some (ow, kd, na, mL, fr, lo)) (hcode : jv_code y pc = some (i, len)) (hc : jv_isC i = some (ck, idx)) (hcal : jv_cal ow idx = some (z, na', ne)) (h0 : z ≠ 900) (h1' : z ≠ 901) (h2 : z ≠ 902) (hq : jv_inf z = some q) (hmay : jv_may ck fr lo q na' st h = true)
    (hr1 : jv_run n z 0 ((st.take na').reverse.map some ++ List.replicate (q.2.2.2.1 - na') none) [] h = some (r1, h1)) : jv_run (n + 1) y pc Lv st h = jv_run n y (pc + 3) Lv (r1.toList ++ st.drop na') h1 := by
  rw [jv_run]
  simp only [hinf, hcode, jv_ret_no (jv_isC_noR hc), hc, hcal, if_neg h0, if_neg h1', if_neg h2, hq, hmay, if_true, hr1]
theorem jv_run_obj {n y pc idx na' ne a : Nat} {Lv : List (Option Value)} {rst : List Value} {h : jv_H} {i : Instr} {len ow kd na mL fr lo : Nat} (hinf : jv_inf y = some (ow, kd, na, mL, fr, lo)) (hcode : jv_code y pc = some (i, len)) (hc : jv_isC i = some (2, idx)) (hcal : jv_cal ow idx = some (900, na', ne)) (h1 : 1 ≤ fr) (h2 : jv_wd rst + 12 ≤ lo) :
    jv_run (n + 1) y pc Lv (.ref a :: rst) h = jv_run n y (pc + 3) Lv rst h := by
  rw [jv_run]
  simp only [hinf, hcode, jv_ret_no (jv_isC_noR hc), hc, hcal]
  rw [if_pos trivial, if_pos ⟨trivial, h1, h2⟩]
theorem jv_run_slen {n y pc idx na' ne : Nat} {Lv : List (Option Value)} {st st' : List Value} {h : jv_H} {i : Instr} {len ow kd na mL fr lo : Nat} (hinf : jv_inf y = some (ow, kd, na, mL, fr, lo)) (hcode : jv_code y pc = some (i, len)) (hc : jv_isC i = some (1, idx)) (hcal : jv_cal ow idx = some (901, na', ne)) (hs : jv_strlen st = some st') (h1 : 2 ≤ fr) (h2 : 40 ≤ lo) (h3 : jv_wd (st.drop 1) ≤ 8) :
    jv_run (n + 1) y pc Lv st h = jv_run n y (pc + 3) Lv st' h := by
  rw [jv_run]
  simp only [hinf, hcode, jv_ret_no (jv_isC_noR hc), hc, hcal, hs]
  rw [if_neg (by decide), if_pos trivial, if_pos ⟨trivial, h1, h2, h3⟩]
theorem jv_run_sat {n y pc idx na' ne : Nat} {Lv : List (Option Value)} {st st' : List Value} {h : jv_H} {i : Instr} {len ow kd na mL fr lo : Nat} (hinf : jv_inf y = some (ow, kd, na, mL, fr, lo)) (hcode : jv_code y pc = some (i, len)) (hc : jv_isC i = some (1, idx)) (hcal : jv_cal ow idx = some (902, na', ne)) (hs : jv_strat st = some st') (h1 : 6 ≤ fr) (h2 : 120 ≤ lo) (h3 : jv_wd (st.drop 2) ≤ 8) :
    jv_run (n + 1) y pc Lv st h = jv_run n y (pc + 3) Lv st' h := by
  rw [jv_run]
  simp only [hinf, hcode, jv_ret_no (jv_isC_noR hc), hc, hcal, hs]
  rw [if_neg (by decide), if_neg (by decide), if_pos trivial, if_pos ⟨trivial, h1, h2, h3⟩]
theorem jv_ev_step {y pc y' pc' : Nat} {Lv Lv' : List (Option Value)} {st st' : List Value} {h h1 : jv_H} {x : Option Value × jv_H} (hs : ∀ n, jv_run (n + 1) y pc Lv st h = jv_run n y' pc' Lv' st' h1) (hx : jv_ev y' pc' Lv' st' h1 x) : jv_ev y pc Lv st h x := by
  obtain ⟨N, hN⟩ := hx
  refine ⟨N + 1, fun n hn => ?_⟩
  obtain ⟨m, rfl⟩ : ∃ m, n = m + 1 := ⟨n - 1, by omega⟩
  rw [hs m]
  exact hN m (by omega)
/-- locals and stacks, number by number -/
def sO (ρ : Nat → Int32) (x : Nat) (o : Option Value) : Prop := match o with
  | none => x = sUNS
  | some v => sr ρ x v
def sL (ρ : Nat → Int32) : List Nat → List (Option Value) → Prop
  | [], M => M = []
  | x :: t, M => ∃ o M', M = o :: M' ∧ sO ρ x o ∧ sL ρ t M'
def sS (ρ : Nat → Int32) : List Nat → List Value → Prop
  | [], M => M = []
  | x :: t, M => ∃ v M', M = v :: M' ∧ sr ρ x v ∧ sS ρ t M'
theorem sL_len {ρ : Nat → Int32} : ∀ (l : List Nat) (M : List (Option Value)), sL ρ l M → M.length = l.length
  | [], M, h => by rw [show M = [] from h]; rfl
  | x :: t, M, h => by
    obtain ⟨o, M', rfl, -, h2⟩ := h
    rw [List.length_cons, List.length_cons, sL_len t M' h2]
theorem sS_len {ρ : Nat → Int32} : ∀ (l : List Nat) (M : List Value), sS ρ l M → M.length = l.length
  | [], M, h => by rw [show M = [] from h]; rfl
  | x :: t, M, h => by
    obtain ⟨o, M', rfl, -, h2⟩ := h
    rw [List.length_cons, List.length_cons, sS_len t M' h2]
theorem sL_nth {ρ : Nat → Int32} : ∀ (l : List Nat) (M : List (Option Value)) (i : Nat), sL ρ l M → ¬ s_nth l i = sUNS → ∃ v, M[i]? = some (some v) ∧ sr ρ (s_nth l i) v
  | [], M, i, h, hn => absurd rfl hn
  | x :: t, M, 0, h, hn => by
    obtain ⟨o, M', rfl, h1, h2⟩ := h
    cases o with
    | none => exact absurd h1 hn
    | some v => exact ⟨v, rfl, h1⟩
  | x :: t, M, i + 1, h, hn => by
    obtain ⟨o, M', rfl, h1, h2⟩ := h
    exact sL_nth t M' i h2 hn
theorem jv_cat2_one {M : List (Option Value)} {i : Nat} (h : ∀ v, M[i]? = some (some v) → v.category = 1) : ¬ jv_cat2 M i = true := by
  unfold jv_cat2
  split
  · rename_i hq
    cases h _ hq
  · rename_i hq
    cases h _ hq
  · intro q; cases q
theorem sL_at {ρ : Nat → Int32} : ∀ (l : List Nat) (M : List (Option Value)) (i : Nat), sL ρ l M → ∀ v, M[i]? = some (some v) → sr ρ (s_nth l i) v := by
  intro l
  induction l with
  | nil =>
    intro M i h v hv
    rw [show M = [] from h] at hv
    cases hv
  | cons x t ih =>
    intro M i h v hv
    obtain ⟨o, M', rfl, h1, h2⟩ := h
    cases i with
    | zero =>
      have e : o = some v := by simpa using hv
      rw [e] at h1
      exact h1
    | succ j =>
      rw [List.getElem?_cons_succ] at hv
      exact ih M' j h2 v hv
theorem sL_cat {ρ : Nat → Int32} {l : List Nat} {M : List (Option Value)} {i : Nat} (h : sL ρ l M) (hn : s_isD (s_nth l i) = false) : ¬ jv_cat2 M i = true :=
  jv_cat2_one (fun v hv => sr_cat (b_nle hn) (sL_at l M i h v hv))
theorem sL_set {ρ : Nat → Int32} {x : Nat} {o : Option Value} : ∀ (l : List Nat) (M : List (Option Value)) (i : Nat), sL ρ l M → sO ρ x o → sL ρ (s_set l i x) (M.set i o)
  | [], M, i, h, _ => by
    rw [show M = [] from h]
    exact rfl
  | z :: t, M, 0, h, ho => by
    obtain ⟨o2, M', rfl, h1, h2⟩ := h
    exact ⟨o, M', rfl, ho, h2⟩
  | z :: t, M, i + 1, h, ho => by
    obtain ⟨o2, M', rfl, h1, h2⟩ := h
    exact ⟨o2, M'.set i o, rfl, h1, sL_set t M' i h2 ho⟩
theorem s_free_ok {ρ : Nat → Int32} {SL : List Nat} {Lv : List (Option Value)} {a : Nat} {v : Value} (hL : sL ρ SL Lv) (h : s_free SL a = true) : jv_set1 Lv a v = some (Lv.set a (some v)) := by
  unfold s_free at h
  obtain ⟨h1, h2⟩ := s_and h
  have hlt : a < Lv.length := by rw [sL_len _ _ hL]; exact b_lt h1
  unfold jv_set1
  rw [if_pos hlt]
  cases a with
  | zero => rfl
  | succ j =>
    have h3 : (!(s_isD (s_nth SL j))) = true := h2
    have h4 : s_isD (s_nth SL j) = false := by
      cases hq : s_isD (s_nth SL j) with
      | true => rw [hq] at h3; cases h3
      | false => rfl
    show (if jv_cat2 Lv j = true then none else some (Lv.set (j + 1) (some v))) = _
    rw [if_neg (sL_cat hL h4)]
theorem s_free_ok2 {ρ : Nat → Int32} {SL : List Nat} {Lv : List (Option Value)} {a : Nat} {v : Value} (hL : sL ρ SL Lv) (h : s_free SL a = true) (h9 : Nat.blt (a + 1) SL.length = true) : jv_set2 Lv a v = some ((Lv.set a (some v)).set (a + 1) none) := by
  unfold s_free at h
  obtain ⟨h1, h2⟩ := s_and h
  have hlt : a + 1 < Lv.length := by rw [sL_len _ _ hL]; exact b_lt h9
  unfold jv_set2
  rw [if_pos hlt]
  cases a with
  | zero => rfl
  | succ j =>
    have h3 : (!(s_isD (s_nth SL j))) = true := h2
    have h4 : s_isD (s_nth SL j) = false := by
      cases hq : s_isD (s_nth SL j) with
      | true => rw [hq] at h3; cases h3
      | false => rfl
    show (if jv_cat2 Lv j = true then none else some ((Lv.set (j + 1) (some v)).set (j + 2) none)) = _
    rw [if_neg (sL_cat hL h4)]
/-- cells -/
def sRo (x : Nat) (o : Option Nat) : Prop := match o with
  | none => x = sNUL
  | some b => x = sREF + b ∧ b < sM
def sCk (ρ : Nat → Int32) (c : Nat × Nat × (Nat → Nat)) (x : jv_E) : Prop := match x with
  | .inl (ty, n, f) => c.1 = ty ∧ ty < 2 ∧ c.2.1 = n ∧ ∀ i, i < n → sr ρ (c.2.2 i) (.int (f i))
  | .inr (.inl (ty, n, f)) => c.1 = ty ∧ (ty = 2 ∨ ty = 3) ∧ c.2.1 = n ∧ ∀ i, i < n → sRo (c.2.2 i) (f i)
  | .inr (.inr (d, fs)) => c.1 = 16 + d ∧ c.2.1 = fs.length ∧ ∀ (i : Nat) (v : Value), fs[i]? = some v → sr ρ (c.2.2 i) v
def sHk (ρ : Nat → Int32) (L : Nat) (xs : Nat → Int32) (H : sH) (h : jv_H) : Prop := h.2.1 = H.2.1 ∧ h.2.2 = H.2.2 ∧ H.2.1 ≤ 600000 ∧ h.1 1000000 = .inl (9, L, xs) ∧ ∀ a, a < H.2.1 → sCk ρ (H.1 a) (h.1 a)
def sRho (L : Nat) (xs ρ : Nat → Int32) : Prop := L ≤ 6 ∧ (∀ k, k < 6 → ρ k = xs k) ∧ ρ 6 = Int32.ofNat L ∧ ρ 7 = xs 0 &&& 63
def sFs (ρ : Nat → Int32) : List sF → List jF → Prop
  | [], gs => gs = []
  | f :: t, gs => ∃ g gs', gs = g :: gs' ∧ (f.1 = g.1 ∧ f.2.1 = g.2.1 ∧ f.1 < 272 ∧ s_ok f.1 f.2.1 f.2.2.1 = true ∧ sL ρ f.2.2.2.1 g.2.2.1 ∧ sS ρ f.2.2.2.2 g.2.2.2) ∧ sFs ρ t gs'
/-- the law comes to its end with 1, within the room -/
def sG (gs : List jF) (y pc : Nat) (Lv : List (Option Value)) (st : List Value) (h : jv_H) : Prop := ∃ h', jv_fin gs y pc Lv st h h' ∧ h'.2.1 ≤ 600000 ∧ h'.2.2 ≤ 7302250
def sSnd (env : sE) (f : sF) (rest : List sF) (H : sH) : Prop :=
  ∀ (L : Nat) (xs ρ : Nat → Int32), sRho L xs ρ → sEk ρ env → ∀ (gs : List jF) (Lv : List (Option Value)) (st : List Value) (h : jv_H), f.1 < 272 → s_ok f.1 f.2.1 f.2.2.1 = true → sL ρ f.2.2.2.1 Lv → sS ρ f.2.2.2.2 st → sFs ρ rest gs → sHk ρ L xs H h → sG gs f.1 f.2.1 Lv st h
theorem sHk_put {ρ : Nat → Int32} {L : Nat} {xs : Nat → Int32} {H : sH} {h : jv_H} {p : Nat} {c : Nat × Nat × (Nat → Nat)} {x : jv_E} (hH : sHk ρ L xs H h) (hp : p < H.2.1) (hc : sCk ρ c x) : sHk ρ L xs (s_put H p c) (jv_put h p x) := by
  obtain ⟨h1, h2, h3, h4, h5⟩ := hH
  refine ⟨h1, h2, h3, ?_, fun a ha => ?_⟩
  · show jv_up h.1 p x 1000000 = _
    unfold jv_up
    rw [if_neg (by omega)]
    exact h4
  · show sCk ρ (cond (Nat.beq a p) c (H.1 a)) (jv_up h.1 p x a)
    unfold jv_up
    cases hq : Nat.beq a p with
    | true => rw [if_pos (b_eq hq)]; exact hc
    | false => rw [if_neg (b_ne hq)]; exact h5 a ha
theorem sHk_add {ρ : Nat → Int32} {L : Nat} {xs : Nat → Int32} {H : sH} {h : jv_H} {n : Nat} {c : Nat × Nat × (Nat → Nat)} {x : jv_E} (hH : sHk ρ L xs H h) (hp : H.2.1 < 600000) (hc : sCk ρ c x) : sHk ρ L xs (s_add H c n) (jv_add h x n) := by
  obtain ⟨h1, h2, h3, h4, h5⟩ := hH
  refine ⟨by show h.2.1 + 1 = H.2.1 + 1; rw [h1], by show h.2.2 + n = H.2.2 + n; rw [h2], hp, ?_, fun a ha => ?_⟩
  · show jv_up h.1 h.2.1 x 1000000 = _
    unfold jv_up
    rw [if_neg (by omega)]
    exact h4
  · have ha2 : a < H.2.1 + 1 := ha
    show sCk ρ (cond (Nat.beq a H.2.1) c (H.1 a)) (jv_up h.1 h.2.1 x a)
    unfold jv_up
    rw [h1]
    cases hq : Nat.beq a H.2.1 with
    | true => rw [if_pos (b_eq hq)]; exact hc
    | false =>
      have h6 := b_ne hq
      rw [if_neg h6]
      exact h5 a (by omega)
theorem sFs_nil {ρ : Nat → Int32} {gs : List jF} (h : sFs ρ [] gs) : gs = [] := h
end
section
/-! THE S MACHINE STANDS FOR THE J MACHINE: each operation -/
def sX (ρ : Nat → Int32) (L : Nat) (xs : Nat → Int32) (env : sE) (rest : List sF) (H : sH) (gs : List jF) (y pc : Nat) (i : Instr) (len : Nat) (t : List sI) (SL st : List Nat) (Lv : List (Option Value)) (vs : List Value) (h : jv_H) : Prop :=
  sRho L xs ρ ∧ sEk ρ env ∧ y < 272 ∧ jv_code y pc = some (i, len) ∧ s_ok y (pc + len) t = true ∧ sL ρ SL Lv ∧ sS ρ st vs ∧ sFs ρ rest gs ∧ sHk ρ L xs H h
theorem s_inf {y : Nat} (hy : y < 272) : ∃ (ow kd na mL fr lo : Nat), jv_inf y = some (ow, kd, na, mL, fr, lo) ∧ sow y = ow ∧ sini y = decide (kd = 2) := by
  obtain ⟨⟨ow, kd, na, mL, fr, lo⟩, hq⟩ := Option.isSome_iff_exists.mp (sc_inf y hy)
  exact ⟨ow, kd, na, mL, fr, lo, hq, by unfold sow; rw [hq]; rfl, by unfold sini; rw [hq]; rfl⟩
section SOK
variable {run : sRun} {ρ : Nat → Int32} {L : Nat} {xs : Nat → Int32} {env : sE} {rest : List sF} {H : sH} {gs : List jF} {y pc : Nat} {i : Instr} {len : Nat} {t : List sI} {SL st : List Nat} {Lv : List (Option Value)} {vs : List Value} {h : jv_H}
theorem sX_step (X : sX ρ L xs env rest H gs y pc i len t SL st Lv vs h) (hR : jv_isR i = false) (hC : jv_isC i = none) {pc' : Nat} {Lv' : List (Option Value)} {vs' : List Value} {h1 : jv_H} (hs : jv_step (sow y) (sini y) i len pc Lv vs h = some (pc', Lv', vs', h1)) (hg : sG gs y pc' Lv' vs' h1) : sG gs y pc Lv vs h := by
  obtain ⟨-, -, hy, hcode, -⟩ := X
  obtain ⟨ow, kd, na, mL, fr, lo, hinf, e1, e2⟩ := s_inf hy
  rw [e1, e2] at hs
  obtain ⟨h', hf, hb⟩ := hg
  exact ⟨h', jv_fin_of (fun x hx => jv_ev_step (fun n => jv_run_step hinf hcode hR hC hs) hx) hf, hb⟩
theorem sX_go (hrun : ∀ env f rest H, run env f rest H = true → sSnd env f rest H) (X : sX ρ L xs env rest H gs y pc i len t SL st Lv vs h) (hR : jv_isR i = false) (hC : jv_isC i = none) {Lv' : List (Option Value)} {vs' : List Value} {h1 : jv_H} (hs : jv_step (sow y) (sini y) i len pc Lv vs h = some (pc + len, Lv', vs', h1))
    {env' : sE} {SL' st' : List Nat} {H' : sH} (hr : run env' (y, pc + len, t, SL', st') rest H' = true) (hE : sEk ρ env') (hL : sL ρ SL' Lv') (hS : sS ρ st' vs') (hH : sHk ρ L xs H' h1) : sG gs y pc Lv vs h :=
  sX_step X hR hC hs (hrun _ _ _ _ hr L xs ρ X.1 hE gs Lv' vs' h1 X.2.2.1 X.2.2.2.2.1 hL hS X.2.2.2.2.2.2.2.1 hH)
theorem s_goto_ok (hrun : ∀ env f rest H, run env f rest H = true → sSnd env f rest H) {tgt : Nat} {env' : sE} {SL' st' : List Nat} {H' : sH} (hρ : sRho L xs ρ) (hE : sEk ρ env') (hy : y < 272) {Lv' : List (Option Value)} {vs' : List Value} {h1 : jv_H} (hL : sL ρ SL' Lv') (hS : sS ρ st' vs') (hrs : sFs ρ rest gs) (hH : sHk ρ L xs H' h1) (hr : s_goto sc_meth run env' y tgt SL' st' rest H' = true) : sG gs y tgt Lv' vs' h1 := by
  unfold s_goto at hr
  split at hr
  · rename_i l hl
    exact hrun _ _ _ _ hr L xs ρ hρ hE gs Lv' vs' h1 hy (s_find_ok _ 0 (sc_ok y hy) hl) hL hS hrs hH
  · cases hr
theorem st_pure {ow : Nat} {ini : Bool} {vs' : List Value} (h0 : jv_pure i vs = some vs') : jv_step ow ini i len pc Lv vs h = some (pc + len, Lv, vs', h) := by
  unfold jv_step
  rw [h0]
theorem st_ld {ow : Nat} {ini : Bool} {vs' : List Value} (h0 : jv_pure i vs = none) (h1 : jv_ld i Lv vs = some vs') : jv_step ow ini i len pc Lv vs h = some (pc + len, Lv, vs', h) := by
  unfold jv_step
  rw [h0, h1]
theorem st_br {ow pc' : Nat} {ini : Bool} {vs' : List Value} (h0 : jv_pure i vs = none) (h1 : jv_ld i Lv vs = none) (h2 : jv_br i pc vs = some (pc', vs')) : jv_step ow ini i len pc Lv vs h = some (pc', Lv, vs', h) := by
  unfold jv_step
  rw [h0, h1, h2]
theorem st_sto {ow : Nat} {ini : Bool} {Lv' : List (Option Value)} {vs' : List Value} (h0 : jv_pure i vs = none) (h1 : jv_ld i Lv vs = none) (h2 : jv_br i pc vs = none) (h3 : jv_sto i Lv vs = some (Lv', vs')) : jv_step ow ini i len pc Lv vs h = some (pc + len, Lv', vs', h) := by
  unfold jv_step
  rw [h0, h1, h2, h3]
theorem st_heap {ow : Nat} {ini : Bool} {vs' : List Value} {h1 : jv_H} (h0 : jv_pure i vs = none) (h2 : jv_ld i Lv vs = none) (h3 : jv_br i pc vs = none) (h4 : jv_sto i Lv vs = none) (h5 : jv_heap ow ini i vs h = some (vs', h1)) : jv_step ow ini i len pc Lv vs h = some (pc + len, Lv, vs', h1) := by
  unfold jv_step
  rw [h0, h2, h3, h4, h5]
theorem k_const (hrun : ∀ env f rest H, run env f rest H = true → sSnd env f rest H) (X : sX ρ L xs env rest H gs y pc i len t SL st Lv vs h) {a : Nat} (hk : sk_const i a = true) (hr : so_const run env y (pc + len) t a SL st rest H = true) : sG gs y pc Lv vs h := by
  have key : jv_pure i vs = some (.int (Int32.ofNat a) :: vs) ∧ jv_isR i = false ∧ jv_isC i = none ∧ a < sM := by
    unfold sk_const at hk
    split at hk
    · obtain ⟨h1, h2⟩ := of_decide_eq_true hk
      exact ⟨by rw [← h1]; rfl, rfl, rfl, h2⟩
    · obtain ⟨h1, h2⟩ := of_decide_eq_true hk
      exact ⟨by rw [← h1]; rfl, rfl, rfl, h2⟩
    · obtain ⟨h1, h2⟩ := of_decide_eq_true hk
      exact ⟨by rw [← h1]; rfl, rfl, rfl, h2⟩
    · cases hk
  obtain ⟨k1, k2, k3, k4⟩ := key
  obtain ⟨-, hE, -, -, -, hL, hS, -, hH⟩ := id X
  exact sX_go hrun X k2 k3 (st_pure k1) hr hE hL ⟨_, vs, rfl, Or.inl ⟨k4, rfl⟩, hS⟩ hH
theorem k_ldc (hrun : ∀ env f rest H, run env f rest H = true → sSnd env f rest H) (X : sX ρ L xs env rest H gs y pc i len t SL st Lv vs h) {a : Nat} (kd : Nat) (hk : sk_ldc y i a kd = true) (hr : so_const run env y (pc + len) t a SL st rest H = true) : sG gs y pc Lv vs h := by
  obtain ⟨-, hE, -, -, -, hL, hS, -, hH⟩ := id X
  unfold sk_ldc at hk
  split at hk
  · rename_i idx
    split at hk
    · rename_i w hl
      obtain ⟨h1, h2⟩ := of_decide_eq_true hk
      refine sX_go hrun X rfl rfl (st_heap (vs' := .int w :: vs) (h1 := h) rfl rfl rfl rfl ?_) hr hE hL ⟨_, vs, rfl, Or.inl ⟨h2, h1⟩, hS⟩ hH
      show (match jv_ldc (sow y) idx with
        | some v => some (v :: vs, h)
        | none => none) = _
      rw [hl]
    · rename_i p hl
      obtain ⟨h1, h2⟩ := of_decide_eq_true hk
      refine sX_go hrun X rfl rfl (st_heap (vs' := .ref p :: vs) (h1 := h) rfl rfl rfl rfl ?_) hr hE hL ⟨_, vs, rfl, ⟨h1, h2⟩, hS⟩ hH
      show (match jv_ldc (sow y) idx with
        | some v => some (v :: vs, h)
        | none => none) = _
      rw [hl]
    · cases hk
  · cases hk
theorem k_iload (hrun : ∀ env f rest H, run env f rest H = true → sSnd env f rest H) (X : sX ρ L xs env rest H gs y pc i len t SL st Lv vs h) {a : Nat} (hk : sk_iload i a = true) (hr : so_iload run env y (pc + len) t a SL st rest H = true) : sG gs y pc Lv vs h := by
  obtain ⟨-, hE, -, -, -, hL, hS, -, hH⟩ := id X
  obtain ⟨h1, hr⟩ := s_c1 hr
  have hu : ¬ s_nth SL a = sUNS := by intro q; rw [q] at h1; cases h1
  obtain ⟨v, hv, hsr⟩ := sL_nth _ _ a hL hu
  obtain ⟨w, rfl⟩ := sr_int h1 hsr
  have key : jv_pure i vs = none ∧ jv_ld i Lv vs = some (.int w :: vs) ∧ jv_isR i = false ∧ jv_isC i = none := by
    have e : jv_ldI Lv a vs = some (.int w :: vs) := by unfold jv_ldI; rw [hv]
    unfold sk_iload at hk
    split at hk
    · have h2 := of_decide_eq_true hk
      exact ⟨rfl, by rw [← h2] at e; exact e, rfl, rfl⟩
    · have h2 := of_decide_eq_true hk
      exact ⟨rfl, by rw [← h2] at e; exact e, rfl, rfl⟩
    · cases hk
  obtain ⟨k1, k2, k3, k4⟩ := key
  exact sX_go hrun X k3 k4 (st_ld k1 k2) hr hE hL ⟨_, vs, rfl, hsr, hS⟩ hH
theorem k_aload (hrun : ∀ env f rest H, run env f rest H = true → sSnd env f rest H) (X : sX ρ L xs env rest H gs y pc i len t SL st Lv vs h) {a : Nat} (hk : sk_aload i a = true) (hr : so_aload run env y (pc + len) t a SL st rest H = true) : sG gs y pc Lv vs h := by
  obtain ⟨-, hE, -, -, -, hL, hS, -, hH⟩ := id X
  obtain ⟨h1, hr⟩ := s_c1 hr
  have hu : ¬ s_nth SL a = sUNS := by intro q; rw [q] at h1; cases h1
  obtain ⟨v, hv, hsr⟩ := sL_nth _ _ a hL hu
  have hw := (sr_ref h1 hsr).1
  obtain ⟨w, hw2⟩ : ∃ w, w = s_nth SL a - sREF := ⟨_, rfl⟩
  rw [← hw2] at hw
  subst hw
  have key : jv_pure i vs = none ∧ jv_ld i Lv vs = some (.ref w :: vs) ∧ jv_isR i = false ∧ jv_isC i = none := by
    have e : jv_ldA Lv a vs = some (.ref w :: vs) := by unfold jv_ldA; rw [hv]
    unfold sk_aload at hk
    split at hk
    · have h2 := of_decide_eq_true hk
      exact ⟨rfl, by rw [← h2] at e; exact e, rfl, rfl⟩
    · have h2 := of_decide_eq_true hk
      exact ⟨rfl, by rw [← h2] at e; exact e, rfl, rfl⟩
    · cases hk
  obtain ⟨k1, k2, k3, k4⟩ := key
  exact sX_go hrun X k3 k4 (st_ld k1 k2) hr hE hL ⟨_, vs, rfl, hsr, hS⟩ hH
theorem k_dload (hrun : ∀ env f rest H, run env f rest H = true → sSnd env f rest H) (X : sX ρ L xs env rest H gs y pc i len t SL st Lv vs h) {a : Nat} (hk : sk_dload i a = true) (hr : so_dload run env y (pc + len) t a SL st rest H = true) : sG gs y pc Lv vs h := by
  obtain ⟨-, hE, -, -, -, hL, hS, -, hH⟩ := id X
  obtain ⟨h1, hr⟩ := s_c1 hr
  have hu : ¬ s_nth SL a = sUNS := by intro q; rw [q] at h1; cases h1
  obtain ⟨v, hv, hsr⟩ := sL_nth _ _ a hL hu
  obtain ⟨w, rfl⟩ := sr_dbl h1 hsr
  have key : jv_pure i vs = none ∧ jv_ld i Lv vs = some (.double w :: vs) ∧ jv_isR i = false ∧ jv_isC i = none := by
    have e : jv_ldD Lv a vs = some (.double w :: vs) := by unfold jv_ldD; rw [hv]
    unfold sk_dload at hk
    split at hk
    · have h2 := of_decide_eq_true hk
      exact ⟨rfl, by rw [← h2] at e; exact e, rfl, rfl⟩
    · have h2 := of_decide_eq_true hk
      exact ⟨rfl, by rw [← h2] at e; exact e, rfl, rfl⟩
    · cases hk
  obtain ⟨k1, k2, k3, k4⟩ := key
  exact sX_go hrun X k3 k4 (st_ld k1 k2) hr hE hL ⟨_, vs, rfl, hsr, hS⟩ hH
theorem k_istore (hrun : ∀ env f rest H, run env f rest H = true → sSnd env f rest H) (X : sX ρ L xs env rest H gs y pc i len t SL st Lv vs h) {a : Nat} (hk : sk_istore i a = true) (hr : so_istore run env y (pc + len) t a SL st rest H = true) : sG gs y pc Lv vs h := by
  obtain ⟨-, hE, -, -, -, hL, hS, -, hH⟩ := id X
  unfold so_istore at hr
  split at hr
  · rename_i x r
    obtain ⟨h1, hr⟩ := s_c1 hr
    obtain ⟨h1, h2⟩ := s_and h1
    obtain ⟨v, vs', rfl, hsr, hS⟩ := hS
    obtain ⟨w, rfl⟩ := sr_int h1 hsr
    have key : jv_pure i (.int w :: vs') = none ∧ jv_ld i Lv (.int w :: vs') = none ∧ jv_br i pc (.int w :: vs') = none ∧ jv_sto i Lv (.int w :: vs') = some (Lv.set a (some (.int w)), vs') ∧ jv_isR i = false ∧ jv_isC i = none := by
      have e : jv_stI Lv a (.int w :: vs') = some (Lv.set a (some (.int w)), vs') := by unfold jv_stI; simp only [s_free_ok hL h2]
      unfold sk_istore at hk
      split at hk
      · have h2 := of_decide_eq_true hk
        exact ⟨rfl, rfl, rfl, by rw [← h2] at e ⊢; exact e, rfl, rfl⟩
      · have h2 := of_decide_eq_true hk
        exact ⟨rfl, rfl, rfl, by rw [← h2] at e ⊢; exact e, rfl, rfl⟩
      · cases hk
    obtain ⟨k1, k2, k3, k4, k5, k6⟩ := key
    exact sX_go hrun X k5 k6 (st_sto k1 k2 k3 k4) hr hE (sL_set (o := some (.int w)) _ _ a hL hsr) hS hH
  · cases hr
theorem k_astore (hrun : ∀ env f rest H, run env f rest H = true → sSnd env f rest H) (X : sX ρ L xs env rest H gs y pc i len t SL st Lv vs h) {a : Nat} (hk : sk_astore i a = true) (hr : so_astore run env y (pc + len) t a SL st rest H = true) : sG gs y pc Lv vs h := by
  obtain ⟨-, hE, -, -, -, hL, hS, -, hH⟩ := id X
  unfold so_astore at hr
  split at hr
  · rename_i x r
    obtain ⟨h1, hr⟩ := s_c1 hr
    obtain ⟨h1, h2⟩ := s_and h1
    obtain ⟨v, vs', rfl, hsr, hS⟩ := hS
    have hw := (sr_ref h1 hsr).1
    obtain ⟨w, hw2⟩ : ∃ w, w = x - sREF := ⟨_, rfl⟩
    rw [← hw2] at hw
    subst hw
    have key : jv_pure i (.ref w :: vs') = none ∧ jv_ld i Lv (.ref w :: vs') = none ∧ jv_br i pc (.ref w :: vs') = none ∧ jv_sto i Lv (.ref w :: vs') = some (Lv.set a (some (.ref w)), vs') ∧ jv_isR i = false ∧ jv_isC i = none := by
      have e : jv_stA Lv a (.ref w :: vs') = some (Lv.set a (some (.ref w)), vs') := by unfold jv_stA; simp only [s_free_ok hL h2]
      unfold sk_astore at hk
      split at hk
      · have h2 := of_decide_eq_true hk
        exact ⟨rfl, rfl, rfl, by rw [← h2] at e ⊢; exact e, rfl, rfl⟩
      · have h2 := of_decide_eq_true hk
        exact ⟨rfl, rfl, rfl, by rw [← h2] at e ⊢; exact e, rfl, rfl⟩
      · cases hk
    obtain ⟨k1, k2, k3, k4, k5, k6⟩ := key
    exact sX_go hrun X k5 k6 (st_sto k1 k2 k3 k4) hr hE (sL_set (o := some (.ref w)) _ _ a hL hsr) hS hH
  · cases hr
theorem k_dstore (hrun : ∀ env f rest H, run env f rest H = true → sSnd env f rest H) (X : sX ρ L xs env rest H gs y pc i len t SL st Lv vs h) {a : Nat} (hk : sk_dstore i a = true) (hr : so_dstore run env y (pc + len) t a SL st rest H = true) : sG gs y pc Lv vs h := by
  obtain ⟨-, hE, -, -, -, hL, hS, -, hH⟩ := id X
  unfold so_dstore at hr
  split at hr
  · rename_i x r
    obtain ⟨h1, hr⟩ := s_c1 hr
    obtain ⟨h1, h2⟩ := s_and h1
    obtain ⟨h2, h3⟩ := s_and h2
    obtain ⟨v, vs', rfl, hsr, hS⟩ := hS
    obtain ⟨w, rfl⟩ := sr_dbl h1 hsr
    have key : jv_pure i (.double w :: vs') = none ∧ jv_ld i Lv (.double w :: vs') = none ∧ jv_br i pc (.double w :: vs') = none ∧ jv_sto i Lv (.double w :: vs') = some ((Lv.set a (some (.double w))).set (a + 1) none, vs') ∧ jv_isR i = false ∧ jv_isC i = none := by
      have e : jv_stD Lv a (.double w :: vs') = some ((Lv.set a (some (.double w))).set (a + 1) none, vs') := by unfold jv_stD; simp only [s_free_ok2 hL h2 h3]
      unfold sk_dstore at hk
      split at hk
      · have h2 := of_decide_eq_true hk
        exact ⟨rfl, rfl, rfl, by rw [← h2] at e ⊢; exact e, rfl, rfl⟩
      · have h2 := of_decide_eq_true hk
        exact ⟨rfl, rfl, rfl, by rw [← h2] at e ⊢; exact e, rfl, rfl⟩
      · cases hk
    obtain ⟨k1, k2, k3, k4, k5, k6⟩ := key
    exact sX_go hrun X k5 k6 (st_sto k1 k2 k3 k4) hr hE (sL_set (o := none) _ _ (a + 1) (sL_set (o := some (.double w)) _ _ a hL hsr) rfl) hS hH
  · cases hr
theorem k_iinc (hrun : ∀ env f rest H, run env f rest H = true → sSnd env f rest H) (X : sX ρ L xs env rest H gs y pc i len t SL st Lv vs h) {a b : Nat} (hk : sk_iinc i a b = true) (hr : so_iinc run env y (pc + len) t a b SL st rest H = true) : sG gs y pc Lv vs h := by
  obtain ⟨-, hE, -, -, -, hL, hS, -, hH⟩ := id X
  unfold sk_iinc at hk
  split at hk
  · rename_i k n
    obtain ⟨rfl, hn, hb⟩ := of_decide_eq_true hk
    unfold so_iinc at hr
    have hu : ¬ s_nth SL k = sUNS := by
      intro q
      rw [q] at hr
      have e : s_res env sUNS = sUNS := by unfold s_res; rfl
      rw [e] at hr
      cases hr
    obtain ⟨v, hv, hsr⟩ := sL_nth _ _ k hL hu
    have hsr2 := sr_res hE hsr
    have hI : ∃ w, v = .int w := by
      have h3 := hr
      unfold s_conc at h3
      rcases s_c2 h3 with ⟨x1, -⟩ | ⟨x1, h3⟩
      · exact ⟨_, sr_num (b_lt x1) hsr2⟩
      · obtain ⟨x2, -⟩ := s_c1 h3
        obtain ⟨j, -, -, -, e⟩ := sr_sym x2 hsr2
        exact ⟨_, e⟩
    obtain ⟨w, rfl⟩ := hI
    obtain ⟨z, env', hE', hz, rfl, hr⟩ := s_conc_ok hr hE hsr2
    obtain ⟨h1, hr⟩ := s_c1 hr
    rw [s_frc_eq] at hr
    refine sX_go hrun X rfl rfl (st_sto (Lv' := Lv.set k (some (.int (Int32.ofNat z + Int32.ofInt n)))) (vs' := vs) rfl rfl rfl ?_) hr hE' (sL_set (o := some (.int (Int32.ofNat z + Int32.ofInt n))) _ _ k hL ?_) hS hH
    · show (match Lv[k]? with
        | some (some (.int x)) => match jv_set1 Lv k (.int (x + Int32.ofInt n)) with
          | some L' => some (L', vs)
          | none => none
        | _ => none) = _
      rw [hv]
      show (match jv_set1 Lv k (.int (Int32.ofNat z + Int32.ofInt n)) with
          | some L' => some (L', vs)
          | none => none) = _
      rw [s_free_ok hL h1]
    · rw [hn, a_add]
      exact Or.inl ⟨Nat.mod_lt _ (by decide), rfl⟩
  · cases hk
theorem s_conc_int {k : Nat → sE → Bool} {x : Nat} {v : Value} (hr : s_conc env x k = true) (hsr : sr ρ x v) : ∃ w, v = .int w := by
  unfold s_conc at hr
  rcases s_c2 hr with ⟨x1, -⟩ | ⟨x1, hr⟩
  · exact ⟨_, sr_num (b_lt x1) hsr⟩
  · obtain ⟨x2, -⟩ := s_c1 hr
    obtain ⟨j, -, -, -, e⟩ := sr_sym x2 hsr
    exact ⟨_, e⟩
/-- an operation on two numbers -/
theorem k_two (hrun : ∀ env f rest H, run env f rest H = true → sSnd env f rest H) (X : sX ρ L xs env rest H gs y pc i len t SL st Lv vs h) {f : Nat → Nat → Nat} {ok : Nat → Nat → Bool} {g : Int32 → Int32 → Int32} (hR : jv_isR i = false) (hC : jv_isC i = none) (hp : ∀ (x v : Nat) (r : List Value), x < sM → v < sM → ok x v = true → jv_pure i (.int (Int32.ofNat v) :: .int (Int32.ofNat x) :: r) = some (.int (g (Int32.ofNat x) (Int32.ofNat v)) :: r) ∧ f x v < sM ∧ g (Int32.ofNat x) (Int32.ofNat v) = Int32.ofNat (f x v))
    (hr : so_two run env y (pc + len) t SL st rest H f ok = true) : sG gs y pc Lv vs h := by
  obtain ⟨-, hE, -, -, -, hL, hS, -, hH⟩ := id X
  unfold so_two at hr
  split at hr
  · rename_i v x r
    obtain ⟨v1, vs1, rfl, hsv, v2, vs2, rfl, hsx, hS⟩ := hS
    have hsx2 := sr_res hE hsx
    obtain ⟨wx, rfl⟩ := s_conc_int hr hsx2
    obtain ⟨z, env', hE', hz, rfl, hr⟩ := s_conc_ok hr hE hsx2
    have hsv2 := sr_res hE' hsv
    obtain ⟨wv, rfl⟩ := s_conc_int hr hsv2
    obtain ⟨z2, env2, hE2, hz2, rfl, hr⟩ := s_conc_ok hr hE' hsv2
    obtain ⟨h1, hr⟩ := s_c1 hr
    rw [s_frc_eq] at hr
    obtain ⟨p1, p2, p3⟩ := hp z z2 vs2 hz hz2 h1
    exact sX_go hrun X hR hC (st_pure p1) hr hE2 hL ⟨_, vs2, rfl, Or.inl ⟨p2, p3⟩, hS⟩ hH
  · cases hr
theorem k_iand (hrun : ∀ env f rest H, run env f rest H = true → sSnd env f rest H) (X : sX ρ L xs env rest H gs y pc i len t SL st Lv vs h) (hk : i = .iand) (hr : so_iand run env y (pc + len) t SL st rest H = true) : sG gs y pc Lv vs h := by
  subst hk
  obtain ⟨hρ, hE, -, -, -, hL, hS, -, hH⟩ := id X
  unfold so_iand at hr
  split at hr
  · rename_i v x r
    obtain ⟨v1, vs1, rfl, hsv, v2, vs2, rfl, hsx, hS⟩ := hS
    rcases s_c2 hr with ⟨q, hr⟩ | ⟨q, hr⟩
    · obtain ⟨q1, q2⟩ := s_and q
      have hx1 := b_lt q1
      have hv1 := b_lt q2
      cases sr_num hx1 hsx
      cases sr_num hv1 hsv
      rw [s_frc_eq] at hr
      refine sX_go hrun X rfl rfl (st_pure (vs' := .int (Int32.ofNat x &&& Int32.ofNat v) :: vs2) rfl) hr hE hL ⟨_, vs2, rfl, Or.inl ⟨?_, a_and x v⟩, hS⟩ hH
      exact Nat.lt_of_le_of_lt Nat.and_le_left hx1
    · rcases s_c2 hr with ⟨q3, hr⟩ | ⟨q3, hr⟩
      · obtain ⟨q1, q2⟩ := s_and q3
        have ex : x = 17179869184 := b_eq q1
        have ev : v = 63 := b_eq q2
        subst ex
        subst ev
        cases sr_num (by decide) hsv
        have hS0 : s_isS 17179869184 = true := rfl
        obtain ⟨k, hk, hk2, hk3, rfl⟩ := sr_sym hS0 hsx
        have hk2 : 17179869184 = 17179869184 + k := hk2
        have hk0 : k = 0 := by omega
        subst hk0
        refine sX_go hrun X rfl rfl (st_pure (vs' := .int (ρ 0 &&& Int32.ofNat 63) :: vs2) rfl) hr hE hL ⟨_, vs2, rfl, Or.inr (Or.inl ⟨7, by decide, rfl, ?_⟩), hS⟩ hH
        rw [hρ.2.2.2, hρ.2.1 0 (by decide)]
        rfl
      · obtain ⟨q4, hr⟩ := s_c1 hr
        obtain ⟨q1, q2⟩ := s_and q4
        obtain ⟨wx, rfl⟩ := sr_int q1 hsx
        obtain ⟨wv, rfl⟩ := sr_int q2 hsv
        exact sX_go hrun X rfl rfl (st_pure (vs' := .int (wx &&& wv) :: vs2) rfl) hr hE hL ⟨_, vs2, rfl, Or.inr (Or.inr rfl), hS⟩ hH
  · cases hr
theorem k_ishr (hrun : ∀ env f rest H, run env f rest H = true → sSnd env f rest H) (X : sX ρ L xs env rest H gs y pc i len t SL st Lv vs h) (hk : i = .ishr) (hr : so_ishr run env y (pc + len) t SL st rest H = true) : sG gs y pc Lv vs h := by
  subst hk
  obtain ⟨hρ, hE, -, -, -, hL, hS, -, hH⟩ := id X
  unfold so_ishr at hr
  split at hr
  · rename_i v x r
    obtain ⟨v1, vs1, rfl, hsv, v2, vs2, rfl, hsx, hS⟩ := hS
    obtain ⟨q4, hr⟩ := s_c1 hr
    obtain ⟨q1, q2⟩ := s_and q4
    obtain ⟨wx, rfl⟩ := sr_int q1 hsx
    obtain ⟨wv, rfl⟩ := sr_int q2 hsv
    exact sX_go hrun X rfl rfl (st_pure (vs' := .int (wx >>> (wv &&& 31)) :: vs2) rfl) hr hE hL ⟨_, vs2, rfl, Or.inr (Or.inr rfl), hS⟩ hH
  · cases hr
theorem k_goto (hrun : ∀ env f rest H, run env f rest H = true → sSnd env f rest H) (X : sX ρ L xs env rest H gs y pc i len t SL st Lv vs h) {a : Nat} (hk : sk_goto pc i a = true) (hr : s_goto sc_meth run env y a SL st rest H = true) : sG gs y pc Lv vs h := by
  obtain ⟨hρ, hE, hy, -, -, hL, hS, hrs, hH⟩ := id X
  unfold sk_goto at hk
  split at hk
  · rename_i off
    have h1 := of_decide_eq_true hk
    refine sX_step X rfl rfl (st_br (pc' := a) (vs' := vs) rfl rfl ?_) (s_goto_ok hrun hρ hE hy hL hS hrs hH hr)
    show jv_jmp pc off vs = some (a, vs)
    unfold jv_jmp
    rw [if_pos (by omega), h1]
    rfl
  · cases hk
theorem s_jmp {off : Int} {b : Nat} {r : List Value} (h1 : (pc : Int) + off = (b : Int)) : jv_jmp pc off r = some (b, r) := by
  unfold jv_jmp
  rw [if_pos (by omega), h1]
  rfl
theorem s_lt_int {x v : Nat} {kt kf : sE → Bool} (hr : s_lt env x v kt kf = true) : (x < sM ∨ s_isS x = true) ∧ (v < sM ∨ s_isS v = true) := by
  unfold s_lt at hr
  rcases s_c2 hr with ⟨x1, hr⟩ | ⟨x1, hr⟩
  · refine ⟨Or.inl (b_lt x1), ?_⟩
    rcases s_c2 hr with ⟨y1, hr⟩ | ⟨y1, hr⟩
    · exact Or.inl (b_lt y1)
    · exact Or.inr (s_c1 hr).1
  · obtain ⟨q, -⟩ := s_c1 hr
    obtain ⟨q1, q2⟩ := s_and q
    exact ⟨Or.inr q1, Or.inl (b_lt q2)⟩
theorem s_eq_int {x v : Nat} {kt kf : sE → Bool} (hr : s_eq env x v kt kf = true) : (x < sM ∨ s_isS x = true) ∧ (v < sM ∨ s_isS v = true) := by
  unfold s_eq at hr
  rcases s_c2 hr with ⟨x1, hr⟩ | ⟨x1, hr⟩
  · refine ⟨Or.inl (b_lt x1), ?_⟩
    rcases s_c2 hr with ⟨y1, hr⟩ | ⟨y1, hr⟩
    · exact Or.inl (b_lt y1)
    · exact Or.inr (s_c1 hr).1
  · obtain ⟨q, -⟩ := s_c1 hr
    obtain ⟨q1, q2⟩ := s_and q
    exact ⟨Or.inr q1, Or.inl (b_lt q2)⟩
theorem s_cc_int {cc x v : Nat} {kt kf : sE → Bool} (hr : s_cc env cc x v kt kf = true) : (x < sM ∨ s_isS x = true) ∧ (v < sM ∨ s_isS v = true) := by
  unfold s_cc at hr
  rcases s_c2 hr with ⟨-, hr⟩ | ⟨-, hr⟩
  · exact s_eq_int hr
  rcases s_c2 hr with ⟨-, hr⟩ | ⟨-, hr⟩
  · exact s_eq_int hr
  rcases s_c2 hr with ⟨-, hr⟩ | ⟨-, hr⟩
  · exact s_lt_int hr
  rcases s_c2 hr with ⟨-, hr⟩ | ⟨-, hr⟩
  · exact s_lt_int hr
  rcases s_c2 hr with ⟨-, hr⟩ | ⟨-, hr⟩
  · exact (s_lt_int hr).symm
  · exact (s_lt_int hr).symm
theorem sI_of {x : Nat} {v : Value} (hx : x < sM ∨ s_isS x = true) (hsr : sr ρ x v) : ∃ w, v = .int w := by
  rcases hx with hx | hx
  · exact ⟨_, sr_num hx hsr⟩
  · obtain ⟨j, -, -, -, e⟩ := sr_sym hx hsr
    exact ⟨_, e⟩
theorem k_if (hrun : ∀ env f rest H, run env f rest H = true → sSnd env f rest H) (X : sX ρ L xs env rest H gs y pc i len t SL st Lv vs h) {a b : Nat} (hk : sk_if pc i a b = true) (hlen : len = 3) (hr : so_if sc_meth run env y (pc + len) t a b SL st rest H = true) : sG gs y pc Lv vs h := by
  obtain ⟨hρ, hE, hy, -, hok, hL, hS, hrs, hH⟩ := id X
  unfold sk_if at hk
  split at hk
  · rename_i cn off
    obtain ⟨rfl, h1⟩ := of_decide_eq_true hk
    unfold so_if at hr
    split at hr
    · rename_i x r
      obtain ⟨v1, vs1, rfl, hsx, hS⟩ := hS
      have hsx2 := sr_res hE hsx
      obtain ⟨w, rfl⟩ := sI_of (s_cc_int hr).1 hsx2
      rcases s_cc_ok hr hE hsx2 (Or.inl ⟨by decide, rfl⟩ : sr ρ 0 (.int (Int32.ofNat 0))) with ⟨hc, env', hE', hr⟩ | ⟨hc, env', hE', hr⟩
      · refine sX_step X rfl rfl (st_br (pc' := b) (vs' := vs1) rfl rfl ?_) (s_goto_ok hrun hρ hE' hy hL hS hrs hH hr)
        show (match jv_jmp pc off vs1 with
          | some t => if jv_cc cn w 0 = true then some t else some (pc + 3, vs1)
          | none => none) = some (b, vs1)
        rw [s_jmp h1]
        exact if_pos hc
      · refine sX_go hrun X rfl rfl (st_br (pc' := pc + len) (vs' := vs1) rfl rfl ?_) hr hE' hL hS hH
        show (match jv_jmp pc off vs1 with
          | some t => if jv_cc cn w 0 = true then some t else some (pc + 3, vs1)
          | none => none) = some (pc + len, vs1)
        rw [s_jmp h1, hlen]
        exact if_neg hc
    · cases hr
  · cases hk
theorem k_icmp (hrun : ∀ env f rest H, run env f rest H = true → sSnd env f rest H) (X : sX ρ L xs env rest H gs y pc i len t SL st Lv vs h) {a b : Nat} (hk : sk_icmp pc i a b = true) (hlen : len = 3) (hr : so_icmp sc_meth run env y (pc + len) t a b SL st rest H = true) : sG gs y pc Lv vs h := by
  obtain ⟨hρ, hE, hy, -, hok, hL, hS, hrs, hH⟩ := id X
  unfold sk_icmp at hk
  split at hk
  · rename_i cn off
    obtain ⟨rfl, h1⟩ := of_decide_eq_true hk
    unfold so_icmp at hr
    split at hr
    · rename_i v x r
      obtain ⟨v1, vs1, rfl, hsv, v2, vs2, rfl, hsx, hS⟩ := hS
      have hsx2 := sr_res hE hsx
      have hsv2 := sr_res hE hsv
      obtain ⟨w, rfl⟩ := sI_of (s_cc_int hr).1 hsx2
      obtain ⟨u, rfl⟩ := sI_of (s_cc_int hr).2 hsv2
      rcases s_cc_ok hr hE hsx2 hsv2 with ⟨hc, env', hE', hr⟩ | ⟨hc, env', hE', hr⟩
      · refine sX_step X rfl rfl (st_br (pc' := b) (vs' := vs2) rfl rfl ?_) (s_goto_ok hrun hρ hE' hy hL hS hrs hH hr)
        show (match jv_jmp pc off vs2 with
          | some t => if jv_cc cn w u = true then some t else some (pc + 3, vs2)
          | none => none) = some (b, vs2)
        rw [s_jmp h1]
        exact if_pos hc
      · refine sX_go hrun X rfl rfl (st_br (pc' := pc + len) (vs' := vs2) rfl rfl ?_) hr hE' hL hS hH
        show (match jv_jmp pc off vs2 with
          | some t => if jv_cc cn w u = true then some t else some (pc + 3, vs2)
          | none => none) = some (pc + len, vs2)
        rw [s_jmp h1, hlen]
        exact if_neg hc
    · cases hr
  · cases hk
theorem k_dup (hrun : ∀ env f rest H, run env f rest H = true → sSnd env f rest H) (X : sX ρ L xs env rest H gs y pc i len t SL st Lv vs h) (hk : i = .dup) (hr : so_dup run env y (pc + len) t SL st rest H = true) : sG gs y pc Lv vs h := by
  subst hk
  obtain ⟨hρ, hE, -, -, -, hL, hS, -, hH⟩ := id X
  unfold so_dup at hr
  split at hr
  · rename_i x r
    obtain ⟨v1, vs1, rfl, hsx, hS⟩ := hS
    obtain ⟨q, hr⟩ := s_c1 hr
    rcases s_or q with q | q
    · obtain ⟨w, rfl⟩ := sr_int q hsx
      exact sX_go hrun X rfl rfl (st_pure (vs' := .int w :: .int w :: vs1) rfl) hr hE hL ⟨_, _, rfl, hsx, _, vs1, rfl, hsx, hS⟩ hH
    · have hw := (sr_ref q hsx).1
      obtain ⟨w, hw2⟩ : ∃ w, w = x - sREF := ⟨_, rfl⟩
      rw [← hw2] at hw
      subst hw
      exact sX_go hrun X rfl rfl (st_pure (vs' := .ref w :: .ref w :: vs1) rfl) hr hE hL ⟨_, _, rfl, hsx, _, vs1, rfl, hsx, hS⟩ hH
  · cases hr
theorem k_pop (hrun : ∀ env f rest H, run env f rest H = true → sSnd env f rest H) (X : sX ρ L xs env rest H gs y pc i len t SL st Lv vs h) (hk : i = .pop) (hr : so_pop run env y (pc + len) t SL st rest H = true) : sG gs y pc Lv vs h := by
  subst hk
  obtain ⟨hρ, hE, -, -, -, hL, hS, -, hH⟩ := id X
  unfold so_pop at hr
  split at hr
  · rename_i x r
    obtain ⟨v1, vs1, rfl, hsx, hS⟩ := hS
    obtain ⟨q, hr⟩ := s_c1 hr
    rcases s_or q with q | q
    · obtain ⟨w, rfl⟩ := sr_int q hsx
      exact sX_go hrun X rfl rfl (st_pure (vs' := vs1) rfl) hr hE hL hS hH
    · have hw := (sr_ref q hsx).1
      obtain ⟨w, hw2⟩ : ∃ w, w = x - sREF := ⟨_, rfl⟩
      rw [← hw2] at hw
      subst hw
      exact sX_go hrun X rfl rfl (st_pure (vs' := vs1) rfl) hr hE hL hS hH
  · cases hr
theorem k_dup2 (hrun : ∀ env f rest H, run env f rest H = true → sSnd env f rest H) (X : sX ρ L xs env rest H gs y pc i len t SL st Lv vs h) (hk : i = .dup2) (hr : so_dup2 run env y (pc + len) t SL st rest H = true) : sG gs y pc Lv vs h := by
  subst hk
  obtain ⟨hρ, hE, -, -, -, hL, hS, -, hH⟩ := id X
  unfold so_dup2 at hr
  split at hr
  · rename_i x p r
    obtain ⟨v1, vs1, rfl, hsx, v2, vs2, rfl, hsp, hS⟩ := hS
    obtain ⟨q, hr⟩ := s_c1 hr
    obtain ⟨q1, q2⟩ := s_and q
    obtain ⟨w, rfl⟩ := sr_int q1 hsx
    have hw := (sr_ref q2 hsp).1
    obtain ⟨u, hw2⟩ : ∃ w, w = p - sREF := ⟨_, rfl⟩
    rw [← hw2] at hw
    subst hw
    exact sX_go hrun X rfl rfl (st_pure (vs' := .int w :: .ref u :: .int w :: .ref u :: vs2) rfl) hr hE hL ⟨_, _, rfl, hsx, _, _, rfl, hsp, _, _, rfl, hsx, _, vs2, rfl, hsp, hS⟩ hH
  · cases hr
/-- a place on the stack, and its cell -/
theorem s_cell {p : Nat} {v : Value} (hH : sHk ρ L xs H h) (hp : s_isR p = true) (hlt : Nat.blt (p - sREF) H.2.1 = true) (hsp : sr ρ p v) : ∃ q : Nat, q = p - sREF ∧ v = .ref q ∧ q < h.2.1 ∧ q < H.2.1 ∧ sCk ρ (H.1 q) (h.1 q) := by
  have h1 := (sr_ref hp hsp).1
  have h2 := b_lt hlt
  exact ⟨p - sREF, rfl, h1, by rw [hH.1]; exact h2, h2, hH.2.2.2.2 _ h2⟩
theorem sCk_obj {c : Nat × Nat × (Nat → Nat)} {x : jv_E} {d : Nat} (hc : sCk ρ c x) (hd : Nat.beq c.1 (16 + d) = true) : ∃ fs, x = .inr (.inr (d, fs)) ∧ c.2.1 = fs.length ∧ ∀ (i : Nat) (v : Value), fs[i]? = some v → sr ρ (c.2.2 i) v := by
  have h1 := b_eq hd
  match x, hc with
  | .inl (ty, n, f), hc =>
    obtain ⟨e1, e2, -⟩ := hc
    omega
  | .inr (.inl (ty, n, f)), hc =>
    obtain ⟨e1, e2, -⟩ := hc
    omega
  | .inr (.inr (d2, fs)), hc =>
    obtain ⟨e1, e2, e3⟩ := hc
    have : d2 = d := by omega
    subst this
    exact ⟨fs, rfl, e2, e3⟩
theorem sCk_arr {c : Nat × Nat × (Nat → Nat)} {x : jv_E} {d : Nat} (hc : sCk ρ c x) (hd : Nat.beq c.1 d = true) (hd2 : d < 2) : ∃ (n : Nat) (f : Nat → Int32), x = .inl (d, n, f) ∧ c.2.1 = n ∧ ∀ i, i < n → sr ρ (c.2.2 i) (.int (f i)) := by
  have h1 := b_eq hd
  match x, hc with
  | .inl (ty, n, f), hc =>
    obtain ⟨e1, e2, e3, e4⟩ := hc
    have : ty = d := by omega
    subst this
    exact ⟨n, f, rfl, e3, e4⟩
  | .inr (.inl (ty, n, f)), hc =>
    obtain ⟨e1, e2, -⟩ := hc
    omega
  | .inr (.inr (d2, fs)), hc =>
    obtain ⟨e1, e2, e3⟩ := hc
    omega
theorem sCk_rarr {c : Nat × Nat × (Nat → Nat)} {x : jv_E} {d : Nat} (hc : sCk ρ c x) (hd : Nat.beq c.1 d = true) (hd2 : d = 2 ∨ d = 3) : ∃ (n : Nat) (f : Nat → Option Nat), x = .inr (.inl (d, n, f)) ∧ c.2.1 = n ∧ ∀ i, i < n → sRo (c.2.2 i) (f i) := by
  have h1 := b_eq hd
  match x, hc with
  | .inl (ty, n, f), hc =>
    obtain ⟨e1, e2, e3, e4⟩ := hc
    omega
  | .inr (.inl (ty, n, f)), hc =>
    obtain ⟨e1, e2, e3, e4⟩ := hc
    have : ty = d := by omega
    subst this
    exact ⟨n, f, rfl, e3, e4⟩
  | .inr (.inr (d2, fs)), hc =>
    obtain ⟨e1, e2, e3⟩ := hc
    omega
theorem k_getf (hrun : ∀ env f rest H, run env f rest H = true → sSnd env f rest H) (X : sX ρ L xs env rest H gs y pc i len t SL st Lv vs h) {a b : Nat} (hk : sk_getf y i a b = true) (hr : so_getf run env y (pc + len) t a b SL st rest H = true) : sG gs y pc Lv vs h := by
  obtain ⟨hρ, hE, -, -, -, hL, hS, -, hH⟩ := id X
  unfold sk_getf at hk
  split at hk
  · rename_i idx
    have hfld := of_decide_eq_true hk
    unfold so_getf at hr
    split at hr
    · rename_i p r
      obtain ⟨v1, vs1, rfl, hsp, hS⟩ := hS
      obtain ⟨q, hr⟩ := s_c1 hr
      obtain ⟨q1, q⟩ := s_and q
      obtain ⟨q2, q⟩ := s_and q
      obtain ⟨q3, q4⟩ := s_and q
      obtain ⟨u, hu, rfl, hlt, hlt2, hc⟩ := s_cell hH q1 q2 hsp
      rw [← hu] at q3 q4 hr
      obtain ⟨fs, hx, hlen, hf⟩ := sCk_obj hc q3
      have hb : b < fs.length := by rw [← hlen]; exact b_lt q4
      rw [s_frc_eq] at hr
      have hv := List.getElem?_eq_getElem hb
      refine sX_go hrun X rfl rfl (st_heap (vs' := fs[b] :: vs1) (h1 := h) rfl rfl rfl rfl ?_) hr hE hL ⟨_, vs1, rfl, hf b _ hv, hS⟩ hH
      show (match jv_get (sow y) idx (.ref u :: vs1) h with
        | some st' => some (st', h)
        | none => none) = _
      have e : jv_get (sow y) idx (.ref u :: vs1) h = some (fs[b] :: vs1) := by
        unfold jv_get
        simp only [hfld]
        rw [if_pos hlt]
        simp only [hx]
        rw [if_pos trivial]
        simp only [hv]
      rw [e]
    · cases hr
  · cases hk
theorem k_putf (hrun : ∀ env f rest H, run env f rest H = true → sSnd env f rest H) (X : sX ρ L xs env rest H gs y pc i len t SL st Lv vs h) {a b kd : Nat} {ok : Nat → Bool} (hk : sk_putf y i a b kd = true) (hokv : ∀ (x : Nat) (v : Value) (ty : FieldType), ok x = true → sr ρ x v → pv_k kd ty = true → narrow ty v = v ∧ fits ty v = true) (hr : so_putf run env y (pc + len) t a b SL st rest H ok = true) : sG gs y pc Lv vs h := by
  obtain ⟨hρ, hE, -, -, -, hL, hS, -, hH⟩ := id X
  unfold sk_putf at hk
  split at hk
  · rename_i idx
    obtain ⟨hk1, hk2⟩ := s_and hk
    obtain ⟨hfld, hfin⟩ := of_decide_eq_true hk1
    unfold so_putf at hr
    split at hr
    · rename_i x p r
      obtain ⟨v0, vs0, rfl, hsx, v1, vs1, rfl, hsp, hS⟩ := hS
      obtain ⟨q, hr⟩ := s_c1 hr
      obtain ⟨q0, q⟩ := s_and q
      obtain ⟨q1, q⟩ := s_and q
      obtain ⟨q2, q⟩ := s_and q
      obtain ⟨q3, q4⟩ := s_and q
      obtain ⟨u, hu, rfl, hlt, hlt2, hc⟩ := s_cell hH q1 q2 hsp
      rw [← hu] at q3 q4 hr
      obtain ⟨fs, hx, hlen, hf⟩ := sCk_obj hc q3
      have hb : b < fs.length := by rw [← hlen]; exact b_lt q4
      obtain ⟨hn, hfi⟩ := hokv x v0 (jv_fty a b) q0 hsx hk2
      have hcell : sCk ρ ((H.1 u).1, (H.1 u).2.1, s_up (H.1 u).2.2 b x) (.inr (.inr (a, fs.set b v0))) := by
        refine ⟨b_eq q3, by rw [List.length_set]; exact hlen, fun j w hj => ?_⟩
        show sr ρ (cond (Nat.beq j b) x ((H.1 u).2.2 j)) w
        cases hq : Nat.beq j b with
        | true =>
          rw [b_eq hq, List.getElem?_set_self hb] at hj
          cases hj
          exact hsx
        | false =>
          rw [List.getElem?_set_ne (fun e => b_ne hq e.symm)] at hj
          exact hf j w hj
      refine sX_go hrun X rfl rfl (st_heap (vs' := vs1) (h1 := jv_put h u (.inr (.inr (a, fs.set b v0)))) rfl rfl rfl rfl ?_) hr hE hL hS (sHk_put hH hlt2 hcell)
      show jv_set (sow y) (sini y) idx (v0 :: .ref u :: vs1) h = _
      unfold jv_set
      simp only [hfld]
      rw [if_pos ⟨hlt, hn, hfi, hfin⟩]
      simp only [hx]
      rw [if_pos ⟨trivial, hb⟩]
    · cases hr
  · cases hk
theorem sI_int {z : Nat} (h : z < 2147483648) : (Int32.ofNat z).toInt = z := Int32.toInt_ofNat_of_lt (by omega)
theorem sI_pos {z : Nat} (h : z < 2147483648) : ¬ Int32.ofNat z < 0 := by
  rw [Int32.lt_iff_toInt_lt, sI_int h]
  show ¬ (z : Int) < 0
  omega
theorem sI_clamp {z : Nat} (h : z < 2147483648) : (Int32.ofNat z).toNatClampNeg = z := by
  show (Int32.ofNat z).toInt.toNat = z
  rw [sI_int h]
  omega
theorem s_nat {z : Nat} (h2 : Nat.blt z 2147483648 = true) : ¬ Int32.ofNat z < 0 ∧ (Int32.ofNat z).toNatClampNeg = z := ⟨sI_pos (b_lt h2), sI_clamp (b_lt h2)⟩
theorem k_iald (hrun : ∀ env f rest H, run env f rest H = true → sSnd env f rest H) (X : sX ρ L xs env rest H gs y pc i len t SL st Lv vs h) (hk : i = .iaload) (hr : so_iald run env y (pc + len) t SL st rest H = true) : sG gs y pc Lv vs h := by
  subst hk
  obtain ⟨hρ, hE, -, -, -, hL, hS, -, hH⟩ := id X
  unfold so_iald at hr
  split at hr
  · rename_i j p r
    obtain ⟨v0, vs0, rfl, hsj, v1, vs1, rfl, hsp, hS⟩ := hS
    rcases s_c2 hr with ⟨q, hr⟩ | ⟨-, hr⟩
    · obtain ⟨qa, qb⟩ := s_and q
      have hp := b_eq qa
      have how : sow y = 10 := by
        rw [b_eq qb]
        rfl
      have hR : s_isR p = true := by rw [hp]; rfl
      have hpr := (sr_ref hR hsp).1
      have hpr2 : p - sREF = 1000000 := by rw [hp]; rfl
      rw [hpr2] at hpr
      subst hpr
      have hsj2 := sr_res hE hsj
      obtain ⟨w, rfl⟩ := s_conc_int hr hsj2
      obtain ⟨z, env', hE', hz, rfl, hr⟩ := s_conc_ok hr hE hsj2
      obtain ⟨q2, hr⟩ := s_c1 hr
      obtain ⟨q3, q4⟩ := s_and q2
      have hz6 : z < 6 := b_lt q3
      have hzL : z < L := by
        have e1 := (hE' 6).1
        rw [hρ.2.2.1, sb_of (Nat.lt_of_le_of_lt hρ.1 (by decide))] at e1
        have e2 := b_lt q4
        have e3 := hρ.1
        rw [(s_bias_eq L).1 (by omega)] at e1
        rw [(s_bias_eq z).1 (by omega)] at e2
        omega
      have hzc : (Int32.ofNat z).toNatClampNeg = z := sI_clamp (by omega)
      have hz0 : ¬ Int32.ofNat z < 0 := sI_pos (by omega)
      refine sX_go hrun X rfl rfl (st_heap (vs' := .int (xs z) :: vs1) (h1 := h) rfl rfl rfl rfl ?_) hr hE' hL ⟨_, vs1, rfl, Or.inr (Or.inl ⟨z, by omega, rfl, (hρ.2.1 z hz6).symm⟩), hS⟩ hH
      show (if (1000000 : Nat) < h.2.1 ∨ ((1000000 : Nat) = 1000000 ∧ sow y = 10) then match h.1 1000000 with
        | .inl (ty, n, f) => if (ty = 0 ∧ (1000000 : Nat) < h.2.1 ∨ ty = 9 ∧ (1000000 : Nat) = 1000000) ∧ ¬ (Int32.ofNat z < 0 ∨ n ≤ (Int32.ofNat z).toNatClampNeg) then some (.int (f (Int32.ofNat z).toNatClampNeg) :: vs1, h) else none
        | _ => none else none) = _
      rw [if_pos (Or.inr ⟨rfl, how⟩), hH.2.2.2.1]
      show (if ((9 : Nat) = 0 ∧ (1000000 : Nat) < h.2.1 ∨ (9 : Nat) = 9 ∧ (1000000 : Nat) = 1000000) ∧ ¬ (Int32.ofNat z < 0 ∨ L ≤ (Int32.ofNat z).toNatClampNeg) then some (.int (xs (Int32.ofNat z).toNatClampNeg) :: vs1, h) else none) = _
      rw [hzc, if_pos ⟨Or.inr ⟨rfl, rfl⟩, fun e => e.elim hz0 (fun e => by omega)⟩]
    · obtain ⟨q, hr⟩ := s_c1 hr
      obtain ⟨q1, q⟩ := s_and q
      obtain ⟨q2, q3⟩ := s_and q
      obtain ⟨u, hu, rfl, hlt, hlt2, hc⟩ := s_cell hH q1 q2 hsp
      rw [← hu] at q3 hr
      obtain ⟨n, f, hx, hlen, hf⟩ := sCk_arr hc q3 (by decide)
      have hsj2 := sr_res hE hsj
      obtain ⟨w, rfl⟩ := s_conc_int hr hsj2
      obtain ⟨z, env', hE', hz, rfl, hr⟩ := s_conc_ok hr hE hsj2
      obtain ⟨q4, hr⟩ := s_c1 hr
      obtain ⟨q5, q6⟩ := s_and q4
      obtain ⟨z0, z1⟩ := s_nat q6
      have hzn : z < n := by rw [← hlen]; exact b_lt q5
      rw [s_frc_eq] at hr
      refine sX_go hrun X rfl rfl (st_heap (vs' := .int (f z) :: vs1) (h1 := h) rfl rfl rfl rfl ?_) hr hE' hL ⟨_, vs1, rfl, hf z hzn, hS⟩ hH
      show (if u < h.2.1 ∨ (u = 1000000 ∧ sow y = 10) then match h.1 u with
        | .inl (ty, n, f) => if (ty = 0 ∧ u < h.2.1 ∨ ty = 9 ∧ u = 1000000) ∧ ¬ (Int32.ofNat z < 0 ∨ n ≤ (Int32.ofNat z).toNatClampNeg) then some (.int (f (Int32.ofNat z).toNatClampNeg) :: vs1, h) else none
        | _ => none else none) = _
      rw [if_pos (Or.inl hlt), hx]
      show (if ((0 : Nat) = 0 ∧ u < h.2.1 ∨ (0 : Nat) = 9 ∧ u = 1000000) ∧ ¬ (Int32.ofNat z < 0 ∨ n ≤ (Int32.ofNat z).toNatClampNeg) then some (.int (f (Int32.ofNat z).toNatClampNeg) :: vs1, h) else none) = _
      rw [z1, if_pos ⟨Or.inl ⟨rfl, hlt⟩, fun e => e.elim z0 (fun e => by omega)⟩]
  · cases hr
end SOK
end
section
/-! THE S MACHINE STANDS FOR THE J MACHINE: arrays, making, calls, ends -/
section SOK2
variable {run : sRun} {ρ : Nat → Int32} {L : Nat} {xs : Nat → Int32} {env : sE} {rest : List sF} {H : sH} {gs : List jF} {y pc : Nat} {i : Instr} {len : Nat} {t : List sI} {SL st : List Nat} {Lv : List (Option Value)} {vs : List Value} {h : jv_H}
theorem k_bald (hrun : ∀ env f rest H, run env f rest H = true → sSnd env f rest H) (X : sX ρ L xs env rest H gs y pc i len t SL st Lv vs h) (hk : i = .baload) (hr : so_bald run env y (pc + len) t SL st rest H = true) : sG gs y pc Lv vs h := by
  subst hk
  obtain ⟨hρ, hE, -, -, -, hL, hS, -, hH⟩ := id X
  unfold so_bald at hr
  split at hr
  · rename_i j p r
    obtain ⟨v0, vs0, rfl, hsj, v1, vs1, rfl, hsp, hS⟩ := hS
    obtain ⟨q, hr⟩ := s_c1 hr
    obtain ⟨q1, q⟩ := s_and q
    obtain ⟨q2, q3⟩ := s_and q
    obtain ⟨u, hu, rfl, hlt, hlt2, hc⟩ := s_cell hH q1 q2 hsp
    rw [← hu] at q3 hr
    obtain ⟨n, f, hx, hlen, hf⟩ := sCk_arr hc q3 (by decide)
    have hsj2 := sr_res hE hsj
    obtain ⟨w, rfl⟩ := s_conc_int hr hsj2
    obtain ⟨z, env', hE', hz, rfl, hr⟩ := s_conc_ok hr hE hsj2
    obtain ⟨q4, hr⟩ := s_c1 hr
    obtain ⟨q5, q6⟩ := s_and q4
    obtain ⟨z0, z1⟩ := s_nat q6
    have hzn : z < n := by rw [← hlen]; exact b_lt q5
    rw [s_frc_eq] at hr
    refine sX_go hrun X rfl rfl (st_heap (vs' := .int (f z) :: vs1) (h1 := h) rfl rfl rfl rfl ?_) hr hE' hL ⟨_, vs1, rfl, hf z hzn, hS⟩ hH
    show (if u < h.2.1 then match h.1 u with
      | .inl (ty, n, f) => if ty = 1 ∧ ¬ (Int32.ofNat z < 0 ∨ n ≤ (Int32.ofNat z).toNatClampNeg) then some (.int (f (Int32.ofNat z).toNatClampNeg) :: vs1, h) else none
      | _ => none else none) = _
    rw [if_pos hlt, hx]
    show (if (1 : Nat) = 1 ∧ ¬ (Int32.ofNat z < 0 ∨ n ≤ (Int32.ofNat z).toNatClampNeg) then some (.int (f (Int32.ofNat z).toNatClampNeg) :: vs1, h) else none) = _
    rw [z1, if_pos ⟨rfl, fun e => e.elim z0 (fun e => by omega)⟩]
  · cases hr
theorem k_aald (hrun : ∀ env f rest H, run env f rest H = true → sSnd env f rest H) (X : sX ρ L xs env rest H gs y pc i len t SL st Lv vs h) (hk : i = .aaload) (hr : so_aald run env y (pc + len) t SL st rest H = true) : sG gs y pc Lv vs h := by
  subst hk
  obtain ⟨hρ, hE, -, -, -, hL, hS, -, hH⟩ := id X
  unfold so_aald at hr
  split at hr
  · rename_i j p r
    obtain ⟨v0, vs0, rfl, hsj, v1, vs1, rfl, hsp, hS⟩ := hS
    obtain ⟨q, hr⟩ := s_c1 hr
    obtain ⟨q1, q⟩ := s_and q
    obtain ⟨q2, q3⟩ := s_and q
    obtain ⟨u, hu, rfl, hlt, hlt2, hc⟩ := s_cell hH q1 q2 hsp
    rw [← hu] at q3 hr
    have key : ∃ (d n : Nat) (f : Nat → Option Nat), (d = 2 ∨ d = 3) ∧ h.1 u = .inr (.inl (d, n, f)) ∧ (H.1 u).2.1 = n ∧ ∀ i, i < n → sRo ((H.1 u).2.2 i) (f i) := by
      rcases s_or q3 with q3 | q3
      · obtain ⟨n, f, e1, e2, e3⟩ := sCk_rarr hc q3 (Or.inl rfl)
        exact ⟨2, n, f, Or.inl rfl, e1, e2, e3⟩
      · obtain ⟨n, f, e1, e2, e3⟩ := sCk_rarr hc q3 (Or.inr rfl)
        exact ⟨3, n, f, Or.inr rfl, e1, e2, e3⟩
    obtain ⟨d, n, f, hd, hx, hlen, hf⟩ := key
    have hsj2 := sr_res hE hsj
    obtain ⟨w, rfl⟩ := s_conc_int hr hsj2
    obtain ⟨z, env', hE', hz, rfl, hr⟩ := s_conc_ok hr hE hsj2
    obtain ⟨q4, hr⟩ := s_c1 hr
    obtain ⟨q5, q6⟩ := s_and q4
    obtain ⟨z0, z1⟩ := s_nat q6
    have hzn : z < n := by rw [← hlen]; exact b_lt q5
    rw [s_frc_eq] at hr
    obtain ⟨q7, hr⟩ := s_c1 hr
    have hfz := hf z hzn
    cases hfo : f z with
    | none =>
      rw [hfo] at hfz
      have e : (H.1 u).2.2 z = sNUL := hfz
      rw [e] at q7
      cases q7
    | some b =>
      rw [hfo] at hfz
      refine sX_go hrun X rfl rfl (st_heap (vs' := .ref b :: vs1) (h1 := h) rfl rfl rfl rfl ?_) hr hE' hL ⟨_, vs1, rfl, hfz, hS⟩ hH
      show (if u < h.2.1 then match h.1 u with
        | .inr (.inl (ty, n, f)) => if (ty = 2 ∨ ty = 3) ∧ ¬ (Int32.ofNat z < 0 ∨ n ≤ (Int32.ofNat z).toNatClampNeg) then (match f (Int32.ofNat z).toNatClampNeg with
          | some b => some (.ref b :: vs1, h)
          | none => none) else none
        | _ => none else none) = _
      rw [if_pos hlt, hx]
      show (if (d = 2 ∨ d = 3) ∧ ¬ (Int32.ofNat z < 0 ∨ n ≤ (Int32.ofNat z).toNatClampNeg) then (match f (Int32.ofNat z).toNatClampNeg with
          | some b => some (.ref b :: vs1, h)
          | none => none) else none) = _
      rw [z1, if_pos ⟨hd, fun e => e.elim z0 (fun e => by omega)⟩, hfo]
  · cases hr
theorem k_iast (hrun : ∀ env f rest H, run env f rest H = true → sSnd env f rest H) (X : sX ρ L xs env rest H gs y pc i len t SL st Lv vs h) (hk : i = .iastore) (hr : so_ast run env y (pc + len) t SL st rest H 0 s_isI = true) : sG gs y pc Lv vs h := by
  subst hk
  obtain ⟨hρ, hE, -, -, -, hL, hS, -, hH⟩ := id X
  unfold so_ast at hr
  split at hr
  · rename_i x j p r
    obtain ⟨v9, vs9, rfl, hsx, v0, vs0, rfl, hsj, v1, vs1, rfl, hsp, hS⟩ := hS
    obtain ⟨q, hr⟩ := s_c1 hr
    obtain ⟨q0, q⟩ := s_and q
    obtain ⟨q1, q⟩ := s_and q
    obtain ⟨q2, q3⟩ := s_and q
    obtain ⟨wx, rfl⟩ := sr_int q0 hsx
    obtain ⟨u, hu, rfl, hlt, hlt2, hc⟩ := s_cell hH q1 q2 hsp
    rw [← hu] at q3 hr
    obtain ⟨n, f, hx, hlen, hf⟩ := sCk_arr hc q3 (by decide)
    have hsj2 := sr_res hE hsj
    obtain ⟨w, rfl⟩ := s_conc_int hr hsj2
    obtain ⟨z, env', hE', hz, rfl, hr⟩ := s_conc_ok hr hE hsj2
    obtain ⟨q4, hr⟩ := s_c1 hr
    obtain ⟨q5, q6⟩ := s_and q4
    obtain ⟨z0, z1⟩ := s_nat q6
    have hzn : z < n := by rw [← hlen]; exact b_lt q5
    have hcell : sCk ρ (0, (H.1 u).2.1, s_up (H.1 u).2.2 z x) (.inl (0, n, upd f z wx)) := by
      refine ⟨rfl, by decide, hlen, fun k hk => ?_⟩
      show sr ρ (cond (Nat.beq k z) x ((H.1 u).2.2 k)) (.int (if k = z then wx else f k))
      cases hq : Nat.beq k z with
      | true => rw [if_pos (b_eq hq)]; exact hsx
      | false => rw [if_neg (b_ne hq)]; exact hf k hk
    refine sX_go hrun X rfl rfl (st_heap (vs' := vs1) (h1 := jv_put h u (.inl (0, n, upd f z wx))) rfl rfl rfl rfl ?_) hr hE' hL hS (sHk_put hH hlt2 hcell)
    show (if u < h.2.1 then match h.1 u with
      | .inl (ty, n, f) => if ty = 0 ∧ ¬ (Int32.ofNat z < 0 ∨ n ≤ (Int32.ofNat z).toNatClampNeg) then some (vs1, jv_put h u (.inl (ty, n, upd f (Int32.ofNat z).toNatClampNeg wx))) else none
      | _ => none else none) = _
    rw [if_pos hlt, hx]
    show (if (0 : Nat) = 0 ∧ ¬ (Int32.ofNat z < 0 ∨ n ≤ (Int32.ofNat z).toNatClampNeg) then some (vs1, jv_put h u (.inl (0, n, upd f (Int32.ofNat z).toNatClampNeg wx))) else none) = _
    rw [z1, if_pos ⟨rfl, fun e => e.elim z0 (fun e => by omega)⟩]
  · cases hr
theorem s_01 {x : Nat} {v : Value} (hx : s_is01 x = true) (h : sr ρ x v) : ∃ w : Int32, v = .int w ∧ (w = 0 ∨ w = 1) := by
  have h1 := b_lt hx
  refine ⟨_, sr_num (Nat.lt_trans h1 (by decide)) h, ?_⟩
  match x, h1 with
  | 0, _ => exact Or.inl rfl
  | 1, _ => exact Or.inr rfl
theorem k_bast (hrun : ∀ env f rest H, run env f rest H = true → sSnd env f rest H) (X : sX ρ L xs env rest H gs y pc i len t SL st Lv vs h) (hk : i = .bastore) (hr : so_ast run env y (pc + len) t SL st rest H 1 s_is01 = true) : sG gs y pc Lv vs h := by
  subst hk
  obtain ⟨hρ, hE, -, -, -, hL, hS, -, hH⟩ := id X
  unfold so_ast at hr
  split at hr
  · rename_i x j p r
    obtain ⟨v9, vs9, rfl, hsx, v0, vs0, rfl, hsj, v1, vs1, rfl, hsp, hS⟩ := hS
    obtain ⟨q, hr⟩ := s_c1 hr
    obtain ⟨q0, q⟩ := s_and q
    obtain ⟨q1, q⟩ := s_and q
    obtain ⟨q2, q3⟩ := s_and q
    obtain ⟨wx, rfl, hw01⟩ := s_01 q0 hsx
    have hnar : vp_nar .boolean wx = wx := by rcases hw01 with rfl | rfl <;> decide
    obtain ⟨u, hu, rfl, hlt, hlt2, hc⟩ := s_cell hH q1 q2 hsp
    rw [← hu] at q3 hr
    obtain ⟨n, f, hx, hlen, hf⟩ := sCk_arr hc q3 (by decide)
    have hsj2 := sr_res hE hsj
    obtain ⟨w, rfl⟩ := s_conc_int hr hsj2
    obtain ⟨z, env', hE', hz, rfl, hr⟩ := s_conc_ok hr hE hsj2
    obtain ⟨q4, hr⟩ := s_c1 hr
    obtain ⟨q5, q6⟩ := s_and q4
    obtain ⟨z0, z1⟩ := s_nat q6
    have hzn : z < n := by rw [← hlen]; exact b_lt q5
    have hcell : sCk ρ (1, (H.1 u).2.1, s_up (H.1 u).2.2 z x) (.inl (1, n, upd f z wx)) := by
      refine ⟨rfl, by decide, hlen, fun k hk => ?_⟩
      show sr ρ (cond (Nat.beq k z) x ((H.1 u).2.2 k)) (.int (if k = z then wx else f k))
      cases hq : Nat.beq k z with
      | true => rw [if_pos (b_eq hq)]; exact hsx
      | false => rw [if_neg (b_ne hq)]; exact hf k hk
    refine sX_go hrun X rfl rfl (st_heap (vs' := vs1) (h1 := jv_put h u (.inl (1, n, upd f z wx))) rfl rfl rfl rfl ?_) hr hE' hL hS (sHk_put hH hlt2 hcell)
    show (if u < h.2.1 ∧ vp_nar .boolean wx = wx then match h.1 u with
      | .inl (ty, n, f) => if ty = 1 ∧ ¬ (Int32.ofNat z < 0 ∨ n ≤ (Int32.ofNat z).toNatClampNeg) then some (vs1, jv_put h u (.inl (ty, n, upd f (Int32.ofNat z).toNatClampNeg wx))) else none
      | _ => none else none) = _
    rw [if_pos ⟨hlt, hnar⟩, hx]
    show (if (1 : Nat) = 1 ∧ ¬ (Int32.ofNat z < 0 ∨ n ≤ (Int32.ofNat z).toNatClampNeg) then some (vs1, jv_put h u (.inl (1, n, upd f (Int32.ofNat z).toNatClampNeg wx))) else none) = _
    rw [z1, if_pos ⟨rfl, fun e => e.elim z0 (fun e => by omega)⟩]
  · cases hr
theorem k_aast (hrun : ∀ env f rest H, run env f rest H = true → sSnd env f rest H) (X : sX ρ L xs env rest H gs y pc i len t SL st Lv vs h) (hk : i = .aastore) (hr : so_aast run env y (pc + len) t SL st rest H = true) : sG gs y pc Lv vs h := by
  subst hk
  obtain ⟨hρ, hE, -, -, -, hL, hS, -, hH⟩ := id X
  unfold so_aast at hr
  split at hr
  · rename_i x j p r
    obtain ⟨v9, vs9, rfl, hsx, v0, vs0, rfl, hsj, v1, vs1, rfl, hsp, hS⟩ := hS
    obtain ⟨q, hr⟩ := s_c1 hr
    obtain ⟨q0, q⟩ := s_and q
    obtain ⟨q9, q⟩ := s_and q
    obtain ⟨q1, q⟩ := s_and q
    obtain ⟨q2, q3⟩ := s_and q
    obtain ⟨b, hb, rfl, hblt, hblt2, hbc⟩ := s_cell hH q0 q9 hsx
    obtain ⟨u, hu, rfl, hlt, hlt2, hc⟩ := s_cell hH q1 q2 hsp
    rw [← hu] at q3 hr
    rw [← hb] at q3
    have key : ∃ (d d2 n : Nat) (f : Nat → Option Nat) (fs : List Value), ((d = 2 ∧ d2 = 6) ∨ (d = 3 ∧ d2 = 5)) ∧ h.1 u = .inr (.inl (d, n, f)) ∧ (H.1 u).1 = d ∧ (H.1 u).2.1 = n ∧ (∀ i, i < n → sRo ((H.1 u).2.2 i) (f i)) ∧ h.1 b = .inr (.inr (d2, fs)) := by
      rcases s_or q3 with q3 | q3
      · obtain ⟨q4, q5⟩ := s_and q3
        obtain ⟨n, f, e1, e2, e3⟩ := sCk_rarr hc q4 (Or.inl rfl)
        obtain ⟨fs, e4, -⟩ := sCk_obj (d := 6) hbc q5
        exact ⟨2, 6, n, f, fs, Or.inl ⟨rfl, rfl⟩, e1, b_eq q4, e2, e3, e4⟩
      · obtain ⟨q4, q5⟩ := s_and q3
        obtain ⟨n, f, e1, e2, e3⟩ := sCk_rarr hc q4 (Or.inr rfl)
        obtain ⟨fs, e4, -⟩ := sCk_obj (d := 5) hbc q5
        exact ⟨3, 5, n, f, fs, Or.inr ⟨rfl, rfl⟩, e1, b_eq q4, e2, e3, e4⟩
    obtain ⟨d, d2, n, f, fs, hd, hx, hk1, hlen, hf, hxb⟩ := key
    have hsj2 := sr_res hE hsj
    obtain ⟨w, rfl⟩ := s_conc_int hr hsj2
    obtain ⟨z, env', hE', hz, rfl, hr⟩ := s_conc_ok hr hE hsj2
    obtain ⟨q4, hr⟩ := s_c1 hr
    obtain ⟨q5, q6⟩ := s_and q4
    obtain ⟨z0, z1⟩ := s_nat q6
    have hzn : z < n := by rw [← hlen]; exact b_lt q5
    have hcell : sCk ρ ((H.1 u).1, (H.1 u).2.1, s_up (H.1 u).2.2 z x) (.inr (.inl (d, n, va_up f z (some b)))) := by
      refine ⟨hk1, by rcases hd with ⟨e, -⟩ | ⟨e, -⟩ <;> omega, hlen, fun k hk => ?_⟩
      show sRo (cond (Nat.beq k z) x ((H.1 u).2.2 k)) (if k = z then some b else f k)
      cases hq : Nat.beq k z with
      | true => rw [if_pos (b_eq hq)]; exact hsx
      | false => rw [if_neg (b_ne hq)]; exact hf k hk
    refine sX_go hrun X rfl rfl (st_heap (vs' := vs1) (h1 := jv_put h u (.inr (.inl (d, n, va_up f z (some b))))) rfl rfl rfl rfl ?_) hr hE' hL hS (sHk_put hH hlt2 hcell)
    show (if u < h.2.1 ∧ b < h.2.1 then match h.1 u, h.1 b with
      | .inr (.inl (ty, n, f)), .inr (.inr (d, _)) => if ((ty = 2 ∧ d = 6) ∨ (ty = 3 ∧ d = 5)) ∧ ¬ (Int32.ofNat z < 0 ∨ n ≤ (Int32.ofNat z).toNatClampNeg) then some (vs1, jv_put h u (.inr (.inl (ty, n, va_up f (Int32.ofNat z).toNatClampNeg (some b))))) else none
      | _, _ => none else none) = _
    rw [if_pos ⟨hlt, hblt⟩, hx, hxb]
    show (if ((d = 2 ∧ d2 = 6) ∨ (d = 3 ∧ d2 = 5)) ∧ ¬ (Int32.ofNat z < 0 ∨ n ≤ (Int32.ofNat z).toNatClampNeg) then some (vs1, jv_put h u (.inr (.inl (d, n, va_up f (Int32.ofNat z).toNatClampNeg (some b))))) else none) = _
    rw [z1, if_pos ⟨hd, fun e => e.elim z0 (fun e => by omega)⟩]
  · cases hr
theorem k_alen (hrun : ∀ env f rest H, run env f rest H = true → sSnd env f rest H) (X : sX ρ L xs env rest H gs y pc i len t SL st Lv vs h) (hk : i = .arraylength) (hr : so_alen run env y (pc + len) t SL st rest H = true) : sG gs y pc Lv vs h := by
  subst hk
  obtain ⟨hρ, hE, -, -, -, hL, hS, -, hH⟩ := id X
  unfold so_alen at hr
  split at hr
  · rename_i p r
    obtain ⟨v1, vs1, rfl, hsp, hS⟩ := hS
    rcases s_c2 hr with ⟨q, hr⟩ | ⟨-, hr⟩
    · obtain ⟨qa, qb⟩ := s_and q
      have hp := b_eq qa
      have how : sow y = 10 := by
        rw [b_eq qb]
        rfl
      have hR : s_isR p = true := by rw [hp]; rfl
      have hpr := (sr_ref hR hsp).1
      have hpr2 : p - sREF = 1000000 := by rw [hp]; rfl
      rw [hpr2] at hpr
      subst hpr
      refine sX_go hrun X rfl rfl (st_heap (vs' := .int (Int32.ofNat L) :: vs1) (h1 := h) rfl rfl rfl rfl ?_) hr hE hL ⟨_, vs1, rfl, Or.inr (Or.inl ⟨6, by decide, rfl, hρ.2.2.1.symm⟩), hS⟩ hH
      show (if (1000000 : Nat) < h.2.1 ∨ ((1000000 : Nat) = 1000000 ∧ sow y = 10) then match h.1 1000000 with
        | .inl (ty, n, _) => if ty < 2 ∧ (1000000 : Nat) < h.2.1 ∨ ty = 9 ∧ (1000000 : Nat) = 1000000 then some (.int (Int32.ofNat n) :: vs1, h) else none
        | .inr (.inl (ty, n, _)) => if (ty = 2 ∨ ty = 3) ∧ (1000000 : Nat) < h.2.1 then some (.int (Int32.ofNat n) :: vs1, h) else none
        | _ => none else none) = _
      rw [if_pos (Or.inr ⟨rfl, how⟩), hH.2.2.2.1]
      show (if (9 : Nat) < 2 ∧ (1000000 : Nat) < h.2.1 ∨ (9 : Nat) = 9 ∧ (1000000 : Nat) = 1000000 then some (.int (Int32.ofNat L) :: vs1, h) else none) = _
      rw [if_pos (Or.inr ⟨rfl, rfl⟩)]
    · obtain ⟨q, hr⟩ := s_c1 hr
      obtain ⟨q1, q⟩ := s_and q
      obtain ⟨q2, q⟩ := s_and q
      obtain ⟨q3, q4⟩ := s_and q
      obtain ⟨u, hu, rfl, hlt, hlt2, hc⟩ := s_cell hH q1 q2 hsp
      rw [← hu] at q3 q4 hr
      rw [s_frc_eq] at hr
      have q3 := b_lt q3
      have q4 := b_lt q4
      refine sX_go hrun X rfl rfl (st_heap (vs' := .int (Int32.ofNat (H.1 u).2.1) :: vs1) (h1 := h) rfl rfl rfl rfl ?_) hr hE hL ⟨_, vs1, rfl, Or.inl ⟨Nat.lt_trans q4 (by decide), rfl⟩, hS⟩ hH
      show (if u < h.2.1 ∨ (u = 1000000 ∧ sow y = 10) then match h.1 u with
        | .inl (ty, n, _) => if ty < 2 ∧ u < h.2.1 ∨ ty = 9 ∧ u = 1000000 then some (.int (Int32.ofNat n) :: vs1, h) else none
        | .inr (.inl (ty, n, _)) => if (ty = 2 ∨ ty = 3) ∧ u < h.2.1 then some (.int (Int32.ofNat n) :: vs1, h) else none
        | _ => none else none) = _
      rw [if_pos (Or.inl hlt)]
      generalize hx : h.1 u = cx at hc
      match cx, hc with
      | .inl (ty, n, f), hc =>
        obtain ⟨e1, e2, e3, -⟩ := hc
        show (if ty < 2 ∧ u < h.2.1 ∨ ty = 9 ∧ u = 1000000 then some (.int (Int32.ofNat n) :: vs1, h) else none) = _
        rw [if_pos (Or.inl ⟨e2, hlt⟩), e3]
      | .inr (.inl (ty, n, f)), hc =>
        obtain ⟨e1, e2, e3, -⟩ := hc
        show (if (ty = 2 ∨ ty = 3) ∧ u < h.2.1 then some (.int (Int32.ofNat n) :: vs1, h) else none) = _
        rw [if_pos ⟨e2, hlt⟩, e3]
      | .inr (.inr (d, fs)), hc =>
        obtain ⟨e1, -⟩ := hc
        omega
  · cases hr
theorem s_ref_new (hH : sHk ρ L xs H h) : sr ρ (H.2.1 + sREF) (.ref h.2.1) := by
  have h1 := hH.1
  have h3 := hH.2.2.1
  refine ⟨?_, ?_⟩
  · show H.2.1 + 4294967296 = 4294967296 + h.2.1
    omega
  · show @LT.lt Nat _ h.2.1 4294967296
    omega
theorem k_new (hrun : ∀ env f rest H, run env f rest H = true → sSnd env f rest H) (X : sX ρ L xs env rest H gs y pc i len t SL st Lv vs h) {a : Nat} (hk : sk_new y i a = true) (hr : so_new run env y (pc + len) t a SL st rest H = true) : sG gs y pc Lv vs h := by
  obtain ⟨hρ, hE, -, -, -, hL, hS, -, hH⟩ := id X
  unfold sk_new at hk
  split at hk
  · rename_i idx
    obtain ⟨hn, ha⟩ := of_decide_eq_true hk
    unfold so_new at hr
    obtain ⟨q, hr⟩ := s_c1 hr
    rw [s_frc_eq] at hr
    have hcell : sCk ρ (16 + a, jv_fn a, fun j => s_def (jv_fty a j)) (.inr (.inr (a, (List.range (jv_fn a)).map (fun k => defaultValue (jv_fty a k))))) := by
      refine ⟨rfl, by simp, fun j v hj => ?_⟩
      rw [List.getElem?_map] at hj
      have hj2 : j < jv_fn a := by
        rcases Nat.lt_or_ge j (jv_fn a) with q | q
        · exact q
        · rw [List.getElem?_eq_none (by simpa using q)] at hj; cases hj
      rw [List.getElem?_range hj2] at hj
      cases hj
      show sr ρ (s_def (jv_fty a j)) (defaultValue (jv_fty a j))
      have hcls : ∀ c, c < 9 → ∀ k, k < jv_fn c → (jv_fty c k = .int ∨ jv_fty c k = .boolean ∨ (defaultValue (jv_fty c k) = .null)) := by decide +kernel
      rcases hcls a ha j hj2 with e | e | e
      · rw [e]; exact Or.inl ⟨by decide, rfl⟩
      · rw [e]; exact Or.inl ⟨by decide, rfl⟩
      · unfold s_def
        rw [e]
        exact rfl
    refine sX_go hrun X rfl rfl (st_heap (vs' := .ref h.2.1 :: vs) (h1 := jv_add h (.inr (.inr (a, (List.range (jv_fn a)).map (fun k => defaultValue (jv_fty a k))))) (jv_fn a)) rfl rfl rfl rfl ?_) hr hE hL ⟨_, vs, rfl, s_ref_new hH, hS⟩ (sHk_add hH (b_lt q) hcell)
    show (match jv_new (sow y) idx with
      | some c => some (Value.ref h.2.1 :: vs, jv_add h (.inr (.inr (c, (List.range (jv_fn c)).map (fun k => defaultValue (jv_fty c k))))) (jv_fn c))
      | none => none) = _
    rw [hn]
  · cases hk
theorem s_nz {z : Nat} (hz : Nat.ble z 100000 = true) : ¬ Int32.ofNat z < 0 ∧ (Int32.ofNat z).toNatClampNeg = z ∧ z ≤ 100000 := by
  have h1 := b_le hz
  exact ⟨sI_pos (by omega), sI_clamp (by omega), h1⟩
theorem k_newa (hrun : ∀ env f rest H, run env f rest H = true → sSnd env f rest H) (X : sX ρ L xs env rest H gs y pc i len t SL st Lv vs h) {a : Nat} (hk : sk_newa i a = true) (hr : so_newa run env y (pc + len) t a SL st rest H 0 = true) : sG gs y pc Lv vs h := by
  obtain ⟨hρ, hE, -, -, -, hL, hS, -, hH⟩ := id X
  unfold so_newa at hr
  split at hr
  · rename_i n r
    obtain ⟨v1, vs1, rfl, hsn, hS⟩ := hS
    obtain ⟨q, hr⟩ := s_c1 hr
    have hsn2 := sr_res hE hsn
    obtain ⟨w, rfl⟩ := s_conc_int hr hsn2
    obtain ⟨z, env', hE', hz, rfl, hr⟩ := s_conc_ok hr hE hsn2
    obtain ⟨q2, hr⟩ := s_c1 hr
    rw [s_frc_eq] at hr
    obtain ⟨z0, z1, z2⟩ := s_nz q2
    have hcell : ∀ k : Nat, k < 2 → sCk ρ (k, z, fun _ => 0) (.inl (k, z, fun _ => 0)) := fun k hk => ⟨rfl, hk, rfl, fun j _ => Or.inl ⟨(by decide : (0 : Nat) < sM), rfl⟩⟩
    unfold sk_newa at hk
    split at hk
    · have ha := of_decide_eq_true hk
      subst ha
      refine sX_go hrun X rfl rfl (st_heap (vs' := .ref h.2.1 :: vs1) (h1 := jv_add h (.inl (0, z, fun _ => 0)) z) rfl rfl rfl rfl ?_) hr hE' hL ⟨_, vs1, rfl, s_ref_new hH, hS⟩ (sHk_add hH (b_lt q) (hcell 0 (by decide)))
      show (if ¬ Int32.ofNat z < 0 ∧ (Int32.ofNat z).toNatClampNeg ≤ 100000 then some (Value.ref h.2.1 :: vs1, jv_add h (.inl (0, (Int32.ofNat z).toNatClampNeg, fun _ => 0)) (Int32.ofNat z).toNatClampNeg) else none) = _
      rw [z1, if_pos ⟨z0, z2⟩]
    · have ha := of_decide_eq_true hk
      subst ha
      refine sX_go hrun X rfl rfl (st_heap (vs' := .ref h.2.1 :: vs1) (h1 := jv_add h (.inl (1, z, fun _ => 0)) z) rfl rfl rfl rfl ?_) hr hE' hL ⟨_, vs1, rfl, s_ref_new hH, hS⟩ (sHk_add hH (b_lt q) (hcell 1 (by decide)))
      show (if ¬ Int32.ofNat z < 0 ∧ (Int32.ofNat z).toNatClampNeg ≤ 100000 then some (Value.ref h.2.1 :: vs1, jv_add h (.inl (1, (Int32.ofNat z).toNatClampNeg, fun _ => 0)) (Int32.ofNat z).toNatClampNeg) else none) = _
      rw [z1, if_pos ⟨z0, z2⟩]
    · cases hk
  · cases hr
theorem k_anew (hrun : ∀ env f rest H, run env f rest H = true → sSnd env f rest H) (X : sX ρ L xs env rest H gs y pc i len t SL st Lv vs h) {a : Nat} (hk : sk_anew y i a = true) (hr : so_newa run env y (pc + len) t a SL st rest H sNUL = true) : sG gs y pc Lv vs h := by
  obtain ⟨hρ, hE, -, -, -, hL, hS, -, hH⟩ := id X
  unfold so_newa at hr
  split at hr
  · rename_i n r
    obtain ⟨v1, vs1, rfl, hsn, hS⟩ := hS
    obtain ⟨q, hr⟩ := s_c1 hr
    have hsn2 := sr_res hE hsn
    obtain ⟨w, rfl⟩ := s_conc_int hr hsn2
    obtain ⟨z, env', hE', hz, rfl, hr⟩ := s_conc_ok hr hE hsn2
    obtain ⟨q2, hr⟩ := s_c1 hr
    rw [s_frc_eq] at hr
    obtain ⟨z0, z1, z2⟩ := s_nz q2
    have hcell : ∀ k : Nat, k = 2 ∨ k = 3 → sCk ρ (k, z, fun _ => sNUL) (.inr (.inl (k, z, fun _ => none))) := fun k hk => ⟨rfl, hk, rfl, fun j _ => rfl⟩
    unfold sk_anew at hk
    split at hk
    · rename_i idx
      rcases of_decide_eq_true hk with ⟨hn, rfl⟩ | ⟨hn, rfl⟩
      · refine sX_go hrun X rfl rfl (st_heap (vs' := .ref h.2.1 :: vs1) (h1 := jv_add h (.inr (.inl (2, z, fun _ => none))) z) rfl rfl rfl rfl ?_) hr hE' hL ⟨_, vs1, rfl, s_ref_new hH, hS⟩ (sHk_add hH (b_lt q) (hcell 2 (Or.inl rfl)))
        show (if ¬ Int32.ofNat z < 0 ∧ (Int32.ofNat z).toNatClampNeg ≤ 100000 then (match jv_new (sow y) idx with
          | some c => if c = 6 then some (Value.ref h.2.1 :: vs1, jv_add h (.inr (.inl (2, (Int32.ofNat z).toNatClampNeg, fun _ => none))) (Int32.ofNat z).toNatClampNeg)
            else if c = 5 then some (Value.ref h.2.1 :: vs1, jv_add h (.inr (.inl (3, (Int32.ofNat z).toNatClampNeg, fun _ => none))) (Int32.ofNat z).toNatClampNeg) else none
          | none => none) else none) = _
        rw [z1, if_pos ⟨z0, z2⟩, hn]
        rfl
      · refine sX_go hrun X rfl rfl (st_heap (vs' := .ref h.2.1 :: vs1) (h1 := jv_add h (.inr (.inl (3, z, fun _ => none))) z) rfl rfl rfl rfl ?_) hr hE' hL ⟨_, vs1, rfl, s_ref_new hH, hS⟩ (sHk_add hH (b_lt q) (hcell 3 (Or.inr rfl)))
        show (if ¬ Int32.ofNat z < 0 ∧ (Int32.ofNat z).toNatClampNeg ≤ 100000 then (match jv_new (sow y) idx with
          | some c => if c = 6 then some (Value.ref h.2.1 :: vs1, jv_add h (.inr (.inl (2, (Int32.ofNat z).toNatClampNeg, fun _ => none))) (Int32.ofNat z).toNatClampNeg)
            else if c = 5 then some (Value.ref h.2.1 :: vs1, jv_add h (.inr (.inl (3, (Int32.ofNat z).toNatClampNeg, fun _ => none))) (Int32.ofNat z).toNatClampNeg) else none
          | none => none) else none) = _
        rw [z1, if_pos ⟨z0, z2⟩, hn]
        rfl
    · cases hk
  · cases hr
end SOK2
end
section
/-! THE S MACHINE STANDS FOR THE J MACHINE: calls, ends, switches, floating numbers -/
section SOK3
variable {run : sRun} {ρ : Nat → Int32} {L : Nat} {xs : Nat → Int32} {env : sE} {rest : List sF} {H : sH} {gs : List jF} {y pc : Nat} {i : Instr} {len : Nat} {t : List sI} {SL st : List Nat} {Lv : List (Option Value)} {vs : List Value} {h : jv_H}
theorem s_noD_ok : ∀ (l : List Nat) (M : List Value), sS ρ l M → s_noD l = true → jv_wd M = M.length
  | [], M, h, _ => by rw [show M = [] from h]; rfl
  | x :: t, M, h, hn => by
    obtain ⟨v, M', rfl, h1, h2⟩ := h
    obtain ⟨n1, n2⟩ := s_and (show (Nat.blt x sDBL && s_noD t) = true from hn)
    have h3 := s_noD_ok t M' h2 n2
    have h4 : v.category = 1 := sr_cat (b_lt n1) h1
    have h5 : jv_wd (v :: M') = v.category + jv_wd M' := by simp [jv_wd]
    rw [h5, h3, h4, List.length_cons]
    omega
theorem jv_wd_take {M : List Value} (h : jv_wd M = M.length) : ∀ n : Nat, jv_wd (M.take n) = (M.take n).length ∧ jv_wd (M.drop n) = (M.drop n).length := by
  intro n
  have hge : ∀ u : List Value, u.length ≤ jv_wd u := by
    intro u
    induction u with
    | nil => exact Nat.le_refl _
    | cons x t ih =>
      have h2 : jv_wd (x :: t) = x.category + jv_wd t := by simp [jv_wd]
      rcases lv_cat x with h3 | h3 <;> simp only [List.length_cons] <;> omega
  have h1 : jv_wd M = jv_wd (M.take n) + jv_wd (M.drop n) := by
    unfold jv_wd
    rw [← List.sum_append, ← List.map_append, List.take_append_drop]
  have h2 : M.length = (M.take n).length + (M.drop n).length := by rw [← List.length_append, List.take_append_drop]
  have h3 := hge (M.take n)
  have h4 := hge (M.drop n)
  omega
theorem sS_take : ∀ (l : List Nat) (M : List Value) (n : Nat), sS ρ l M → sS ρ (s_take l n) (M.take n)
  | [], M, n, h => by
    rw [show M = [] from h, List.take_nil]
    exact rfl
  | x :: t, M, 0, h => by
    rw [List.take_zero]
    exact rfl
  | x :: t, M, n + 1, h => by
    obtain ⟨v, M', rfl, h1, h2⟩ := h
    exact ⟨v, M'.take n, rfl, h1, sS_take t M' n h2⟩
theorem sS_drop : ∀ (l : List Nat) (M : List Value) (n : Nat), sS ρ l M → sS ρ (s_drop l n) (M.drop n)
  | [], M, n, h => by
    rw [show M = [] from h, List.drop_nil]
    exact rfl
  | x :: t, M, 0, h => h
  | x :: t, M, n + 1, h => by
    obtain ⟨v, M', rfl, h1, h2⟩ := h
    exact sS_drop t M' n h2
theorem sS_nth : ∀ (l : List Nat) (M : List Value) (i : Nat), sS ρ l M → i < l.length → ∃ v, M[i]? = some v ∧ sr ρ (s_nth l i) v
  | [], M, i, h, hn => absurd hn (Nat.not_lt_zero i)
  | x :: t, M, 0, h, hn => by
    obtain ⟨v, M', rfl, h1, h2⟩ := h
    exact ⟨v, rfl, h1⟩
  | x :: t, M, i + 1, h, hn => by
    obtain ⟨v, M', rfl, h1, h2⟩ := h
    exact sS_nth t M' i h2 (Nat.lt_of_succ_lt_succ hn)
theorem sL_rev : ∀ (l : List Nat) (M : List Value) (acc : List Nat) (A : List (Option Value)), sS ρ l M → sL ρ acc A → sL ρ (s_rev l acc) (M.reverse.map some ++ A)
  | [], M, acc, A, h, hA => by
    rw [show M = [] from h]
    exact hA
  | x :: t, M, acc, A, h, hA => by
    obtain ⟨v, M', rfl, h1, h2⟩ := h
    have h3 := sL_rev t M' (x :: acc) (some v :: A) h2 ⟨some v, A, rfl, h1, hA⟩
    rw [List.reverse_cons, List.map_append, List.append_assoc]
    exact h3
theorem sL_uns : ∀ n : Nat, sL ρ (s_uns n) (List.replicate n none)
  | 0 => rfl
  | n + 1 => ⟨none, List.replicate n none, List.replicate_succ, rfl, sL_uns n⟩
set_option maxHeartbeats 4000000 in
theorem k_call (hrun : ∀ env f rest H, run env f rest H = true → sSnd env f rest H) (X : sX ρ L xs env rest H gs y pc i len t SL st Lv vs h) {a b : Nat} (hk : sk_call y i a b = true) (hlen : len = 3) (hr : so_call sc_meth run env y (pc + len) t a b SL st rest H = true) : sG gs y pc Lv vs h := by
  subst hlen
  obtain ⟨hρ, hE, hy, hcode, hok, hL, hS, hrs, hH⟩ := id X
  unfold sk_call at hk
  split at hk
  · rename_i ck idx ow kd na mL fr lo ow2 kd2 na2 mL2 fr2 lo2 hC hinf hinf2
    obtain ⟨hcal, ha, hck, hb, hna, hmL, hnm, hkd, hfr, hlo⟩ := of_decide_eq_true hk
    have hb1 : b % 16 = na2 := by split at hb <;> omega
    have hb2 : b / 16 % 64 = mL2 := by split at hb <;> omega
    have hb3 : b / 1024 = (if kd2 = 0 then 0 else ow2 + 1) := by
      by_cases q : kd2 = 0
      · rw [if_pos q] at hb ⊢; omega
      · rw [if_neg q] at hb ⊢; omega
    unfold so_call at hr
    rw [hb1, hb2] at hr
    obtain ⟨q, hr⟩ := s_c1 hr
    obtain ⟨q1, q⟩ := s_and q
    obtain ⟨q2, q⟩ := s_and q
    obtain ⟨q3, q⟩ := s_and q
    have hwd := s_noD_ok _ _ hS q1
    have hsl := sS_len _ _ hS
    have q2 := b_le q2
    have q3 := b_le q3
    have hloc : sL ρ (s_rev (s_take st na2) (s_uns (mL2 - na2))) ((vs.take na2).reverse.map some ++ List.replicate (mL2 - na2) none) := sL_rev _ _ _ _ (sS_take _ _ _ hS) (sL_uns _)
    have hg := hrun _ _ _ _ hr L xs ρ hρ hE ((y, pc + 3, Lv, vs.drop na2) :: gs) _ [] h ha (sc_ok a ha) hloc rfl ⟨(y, pc + 3, Lv, vs.drop na2), gs, rfl, ⟨rfl, rfl, hy, hok, hL, sS_drop _ _ _ hS⟩, hrs⟩ hH
    obtain ⟨h', ⟨r, h1, hev, hf⟩, hbd⟩ := hg
    have hmay : jv_may ck fr lo (ow2, kd2, na2, mL2, fr2, lo2) na2 vs h = true := by
      obtain ⟨w1, w2⟩ := jv_wd_take hwd na2
      have w3 : (vs.take na2).length = na2 := by rw [List.length_take]; omega
      have w4 : (vs.drop na2).length ≤ 8 := by rw [List.length_drop]; omega
      unfold jv_may
      rw [Bool.and_eq_true]
      refine ⟨decide_eq_true ⟨hck.symm, rfl, by omega, hnm, hfr, hlo, by omega, by omega⟩, ?_⟩
      subst hck
      rcases s_c2 q with ⟨z1, -⟩ | ⟨z1, z2⟩
      · have z := b_eq z1
        rw [hb3] at z
        have hck0 : ck = 0 := by
          by_cases e : ck = 0
          · exact e
          · rw [if_neg e] at z; omega
        subst hck0
        rfl
      · have z := b_ne z1
        rw [hb3] at z
        have hck0 : ¬ ck = 0 := fun e => z (by rw [if_pos e])
        rw [hb3, if_neg hck0] at z2
        obtain ⟨z3, z2⟩ := s_and z2
        obtain ⟨z4, z5⟩ := s_and z2
        obtain ⟨v, hv, hsr⟩ := sS_nth st vs (na2 - 1) hS (by omega)
        obtain ⟨u, hu, rfl, hlt, hlt2, hc⟩ := s_cell hH z3 z4 hsr
        rw [← hu] at z5
        obtain ⟨fs, hx, -⟩ := sCk_obj (d := ow2) hc (by rw [show 16 + ow2 = 15 + (ow2 + 1) by omega]; exact z5)
        have hlast : (vs.take na2).getLast? = some (.ref u) := by
          rw [List.getLast?_eq_getElem?, w3, List.getElem?_take, if_pos (by omega)]
          exact hv
        match ck, hck0 with
        | n + 1, _ =>
          show (match (vs.take na2).getLast? with
            | some (.ref a) => decide (a < h.2.1) && (match h.1 a with
              | .inr (.inr (d, _)) => decide (d = ow2)
              | _ => false)
            | _ => false) = true
          rw [hlast]
          show (decide (u < h.2.1) && (match h.1 u with
              | .inr (.inr (d, _)) => decide (d = ow2)
              | _ => false)) = true
          rw [hx, Bool.and_eq_true]
          exact ⟨decide_eq_true hlt, decide_eq_true rfl⟩
        | 0, e => exact absurd rfl e
    refine ⟨h', jv_fin_of (fun x hx => ?_) hf, hbd⟩
    obtain ⟨N1, hN1⟩ := hev
    obtain ⟨N2, hN2⟩ := hx
    refine ⟨N1 + N2 + 1, fun n hn => ?_⟩
    obtain ⟨m, rfl⟩ : ∃ m, n = m + 1 := ⟨n - 1, by omega⟩
    rw [jv_run_call hinf hcode hC hcal (by omega) (by omega) (by omega) hinf2 hmay (hN1 m (by omega))]
    exact hN2 m (by omega)
  · cases hk
theorem s_wd8 {r : List Nat} {M : List Value} (hS : sS ρ r M) (q : (s_noD r && Nat.ble r.length 8) = true) : jv_wd M ≤ 8 := by
  obtain ⟨q1, q2⟩ := s_and q
  rw [s_noD_ok _ _ hS q1, sS_len _ _ hS]
  exact b_le q2
theorem sk_spec_eq {z ck fr0 lo0 : Nat} (hk : sk_spec y i z ck fr0 lo0 = true) : ∃ (idx ow kd na mL fr lo na' ne : Nat), jv_isC i = some (ck, idx) ∧ jv_inf y = some (ow, kd, na, mL, fr, lo) ∧ jv_cal ow idx = some (z, na', ne) ∧ fr0 ≤ fr ∧ lo0 ≤ lo := by
  unfold sk_spec at hk
  split at hk
  · rename_i ck1 idx ow kd na mL fr lo hC hinf
    split at hk
    · rename_i z1 na' ne hcal
      obtain ⟨rfl, rfl, h1, h2⟩ := of_decide_eq_true hk
      exact ⟨idx, ow, kd, na, mL, fr, lo, na', ne, hC, hinf, hcal, h1, h2⟩
    · cases hk
  · cases hk
theorem k_obj (hrun : ∀ env f rest H, run env f rest H = true → sSnd env f rest H) (X : sX ρ L xs env rest H gs y pc i len t SL st Lv vs h) (hk : sk_spec y i 900 2 1 20 = true) (hlen : len = 3) (hr : so_obj run env y (pc + len) t SL st rest H = true) : sG gs y pc Lv vs h := by
  subst hlen
  obtain ⟨hρ, hE, hy, hcode, hok, hL, hS, hrs, hH⟩ := id X
  obtain ⟨idx, ow, kd, na, mL, fr, lo, na', ne, hC, hinf, hcal, h1, h2⟩ := sk_spec_eq hk
  unfold so_obj at hr
  split at hr
  · rename_i p r
    obtain ⟨v1, vs1, rfl, hsp, hS⟩ := hS
    obtain ⟨q, hr⟩ := s_c1 hr
    obtain ⟨q1, q⟩ := s_and q
    have hwd := s_wd8 hS q
    have hw := (sr_ref q1 hsp).1
    obtain ⟨u, hu⟩ : ∃ u, u = p - sREF := ⟨_, rfl⟩
    rw [← hu] at hw
    subst hw
    obtain ⟨h', hf, hb⟩ := hrun _ _ _ _ hr L xs ρ hρ hE gs Lv vs1 h hy hok hL hS hrs hH
    refine ⟨h', jv_fin_of (fun x hx => jv_ev_step (fun n => ?_) hx) hf, hb⟩
    exact jv_run_obj hinf hcode hC hcal h1 (by omega)
  · cases hr
theorem k_slen (hrun : ∀ env f rest H, run env f rest H = true → sSnd env f rest H) (X : sX ρ L xs env rest H gs y pc i len t SL st Lv vs h) (hk : sk_spec y i 901 1 2 40 = true) (hlen : len = 3) (hr : so_slen run env y (pc + len) t SL st rest H = true) : sG gs y pc Lv vs h := by
  subst hlen
  obtain ⟨hρ, hE, hy, hcode, hok, hL, hS, hrs, hH⟩ := id X
  obtain ⟨idx, ow, kd, na, mL, fr, lo, na', ne, hC, hinf, hcal, h1, h2⟩ := sk_spec_eq hk
  unfold so_slen at hr
  split at hr
  · rename_i p r
    obtain ⟨v1, vs1, rfl, hsp, hS⟩ := hS
    obtain ⟨q, hr⟩ := s_c1 hr
    obtain ⟨q1, q⟩ := s_and q
    have hwd := s_wd8 hS q
    have hw := (sr_ref q1 hsp).1
    obtain ⟨u, hu⟩ : ∃ u, u = p - sREF := ⟨_, rfl⟩
    rw [← hu] at hw hr
    subst hw
    split at hr
    · rename_i k hk2
      have hlt : (jv_byt.getD k []).length < sM := by
        have h20 := (jv_tix_eq hk2).1
        have : ∀ k, k < 20 → (jv_byt.getD k []).length < sM := by decide +kernel
        exact this k h20
      obtain ⟨h', hf, hb⟩ := hrun _ _ _ _ hr L xs ρ hρ hE gs Lv (.int (Int32.ofNat (jv_byt.getD k []).length) :: vs1) h hy hok hL ⟨_, vs1, rfl, Or.inl ⟨hlt, rfl⟩, hS⟩ hrs hH
      refine ⟨h', jv_fin_of (fun x hx => jv_ev_step (fun n => ?_) hx) hf, hb⟩
      refine jv_run_slen hinf hcode hC hcal ?_ h1 h2 hwd
      unfold jv_strlen
      simp only [hk2]
    · cases hr
  · cases hr
theorem a_enc (w : Int32) : w.toUInt32.toNat < sM ∧ w = Int32.ofNat w.toUInt32.toNat := by
  refine ⟨w.toUInt32.toNat_lt, ?_⟩
  apply Int32.toBitVec.inj
  show w.toBitVec = BitVec.ofNat 32 w.toUInt32.toNat
  apply BitVec.eq_of_toNat_eq
  rw [BitVec.toNat_ofNat]
  have h1 := w.toUInt32.toNat_lt
  have h2 : w.toUInt32.toNat = w.toBitVec.toNat := rfl
  rw [Nat.mod_eq_of_lt h1, h2]
theorem sr_lit (w : Int32) : sr ρ w.toUInt32.toNat (.int w) := Or.inl (a_enc w)
theorem k_sat (hrun : ∀ env f rest H, run env f rest H = true → sSnd env f rest H) (X : sX ρ L xs env rest H gs y pc i len t SL st Lv vs h) (hk : sk_spec y i 902 1 6 120 = true) (hlen : len = 3) (hr : so_sat run env y (pc + len) t SL st rest H = true) : sG gs y pc Lv vs h := by
  subst hlen
  obtain ⟨hρ, hE, hy, hcode, hok, hL, hS, hrs, hH⟩ := id X
  obtain ⟨idx, ow, kd, na, mL, fr, lo, na', ne, hC, hinf, hcal, h1, h2⟩ := sk_spec_eq hk
  unfold so_sat at hr
  split at hr
  · rename_i j p r
    obtain ⟨v0, vs0, rfl, hsj, v1, vs1, rfl, hsp, hS⟩ := hS
    obtain ⟨q, hr⟩ := s_c1 hr
    obtain ⟨q1, q⟩ := s_and q
    have hwd := s_wd8 hS q
    have hw := (sr_ref q1 hsp).1
    obtain ⟨u, hu⟩ : ∃ u, u = p - sREF := ⟨_, rfl⟩
    rw [← hu] at hw hr
    subst hw
    split at hr
    · rename_i k hk2
      have h20 := (jv_tix_eq hk2).1
      have hsj2 := sr_res hE hsj
      obtain ⟨w, rfl⟩ := s_conc_int hr hsj2
      obtain ⟨z, env', hE', hz, rfl, hr⟩ := s_conc_ok hr hE hsj2
      obtain ⟨q5, hr⟩ := s_c1 hr
      rw [s_frc_eq] at hr
      have q5 := b_lt q5
      have hl20 : ∀ k, k < 20 → (jv_byt.getD k []).length < 100 := by decide +kernel
      have hz100 : z < 2147483648 := Nat.lt_trans q5 (Nat.lt_trans (hl20 k h20) (by decide))
      have z0 : ¬ Int32.ofNat z < 0 := sI_pos hz100
      have z1 : (Int32.ofNat z).toNatClampNeg = z := sI_clamp hz100
      obtain ⟨h', hf, hb⟩ := hrun _ _ _ _ hr L xs ρ hρ hE' gs Lv (.int ((jv_byt.getD k []).getD z 0) :: vs1) h hy hok hL ⟨_, vs1, rfl, sr_lit _, hS⟩ hrs hH
      refine ⟨h', jv_fin_of (fun x hx => jv_ev_step (fun n => ?_) hx) hf, hb⟩
      refine jv_run_sat hinf hcode hC hcal ?_ h1 h2 hwd
      unfold jv_strat
      simp only [hk2, z1]
      rw [if_pos (fun e => e.elim z0 (fun e => Nat.not_le.mpr q5 e))]
    · cases hr
  · cases hr
theorem k_ret (hrun : ∀ env f rest H, run env f rest H = true → sSnd env f rest H) (X : sX ρ L xs env rest H gs y pc i len t SL st Lv vs h) {ok : Nat → Bool} (hokv : ∀ (x : Nat) (v : Value), ok x = true → sr ρ x v → jv_ret (jv_ym y).2.2 i [v] = some (some v)) (hr : so_ret run env st rest H ok = true) : sG gs y pc Lv vs h := by
  obtain ⟨hρ, hE, hy, hcode, hok, hL, hS, hrs, hH⟩ := id X
  obtain ⟨ow, kd, na, mL, fr, lo, hinf, -, -⟩ := s_inf hy
  unfold so_ret at hr
  split at hr
  · rename_i x
    obtain ⟨v, vs1, rfl, hsx, hS⟩ := hS
    have hS2 : vs1 = [] := hS
    subst hS2
    obtain ⟨q, hr⟩ := s_c1 hr
    have hev : jv_ev y pc Lv [v] h (some v, h) := ⟨1, fun n hn => by
      obtain ⟨m, rfl⟩ : ∃ m, n = m + 1 := ⟨n - 1, by omega⟩
      exact jv_run_ret hinf hcode (hokv x v q hsx)⟩
    split at hr
    · have hgs : gs = [] := hrs
      subst hgs
      obtain ⟨r1, r2⟩ := s_and hr
      obtain ⟨r2, r3⟩ := s_and r2
      have hs1 := sr_res hE hsx
      rw [b_eq r1] at hs1
      have hv := sr_num (by decide) hs1
      have hv2 : v = .int 1 := hv
      subst hv2
      exact ⟨h, hev, by rw [hH.1]; exact b_le r2, by rw [hH.2.1]; exact b_le r3⟩
    · rename_i y2 pc2 t2 SL2 st2 rest2 xx
      obtain ⟨⟨gy, gpc, gL, gst⟩, gs', rfl, ⟨e1, e2, hlt, hok2, hL2, hS2⟩, hrs2⟩ := hrs
      have e1 : y2 = gy := e1
      have e2 : pc2 = gpc := e2
      subst e1
      subst e2
      obtain ⟨h', hf, hb⟩ := hrun _ _ _ _ hr L xs ρ hρ hE gs' gL (v :: gst) h hlt hok2 hL2 ⟨v, gst, rfl, hsx, hS2⟩ hrs2 hH
      exact ⟨h', ⟨some v, h, hev, hf⟩, hb⟩
  · cases hr
theorem k_vret (hrun : ∀ env f rest H, run env f rest H = true → sSnd env f rest H) (X : sX ρ L xs env rest H gs y pc i len t SL st Lv vs h) (hk : sk_ret y i 0 = true) (hr : so_vret run env st rest H = true) : sG gs y pc Lv vs h := by
  obtain ⟨hρ, hE, hy, hcode, hok, hL, hS, hrs, hH⟩ := id X
  obtain ⟨ow, kd, na, mL, fr, lo, hinf, -, -⟩ := s_inf hy
  have hret : jv_ret (jv_ym y).2.2 i [] = some none := by
    have hk : sk_r0 i (jv_ym y).2.2 = true := hk
    unfold sk_r0 at hk
    generalize (jv_ym y).2.2 = rt at hk ⊢
    split at hk
    · rfl
    · cases hk
  unfold so_vret at hr
  split at hr
  · have hS2 : vs = [] := hS
    subst hS2
    split at hr
    · cases hr
    · rename_i g rest2
      have hev : jv_ev y pc Lv [] h (none, h) := ⟨1, fun n hn => by
        obtain ⟨m, rfl⟩ : ∃ m, n = m + 1 := ⟨n - 1, by omega⟩
        exact jv_run_ret hinf hcode hret⟩
      obtain ⟨y2, pc2, t2, SL2, st2⟩ := g
      obtain ⟨⟨gy, gpc, gL, gst⟩, gs', rfl, ⟨e1, e2, hlt, hok2, hL2, hS2⟩, hrs2⟩ := hrs
      have e1 : y2 = gy := e1
      have e2 : pc2 = gpc := e2
      subst e1
      subst e2
      obtain ⟨h', hf, hb⟩ := hrun _ _ _ _ hr L xs ρ hρ hE gs' gL gst h hlt hok2 hL2 hS2 hrs2 hH
      exact ⟨h', ⟨none, h, hev, hf⟩, hb⟩
  · cases hr
theorem sk_ret_1 {v : Value} (hk : sk_ret y i 1 = true) (hv : ∃ w, v = .int w) : jv_ret (jv_ym y).2.2 i [v] = some (some v) := by
  obtain ⟨w, rfl⟩ := hv
  have hk : sk_r1 i (jv_ym y).2.2 = true := hk
  unfold sk_r1 at hk
  generalize (jv_ym y).2.2 = rt at hk ⊢
  split at hk
  · exact if_pos rfl
  · cases hk
theorem sk_ret_2 {v : Value} (hk : sk_ret y i 2 = true) (hv : ∃ w : Int32, v = .int w ∧ (w = 0 ∨ w = 1)) : jv_ret (jv_ym y).2.2 i [v] = some (some v) := by
  obtain ⟨w, rfl, hw⟩ := hv
  have hn : narrow .boolean (.int w) = .int w := by rcases hw with rfl | rfl <;> decide
  have hk : sk_r2 i (jv_ym y).2.2 = true := hk
  unfold sk_r2 at hk
  generalize (jv_ym y).2.2 = rt at hk ⊢
  split at hk
  · exact if_pos hn
  · cases hk
theorem sk_ret_3 {v : Value} (hk : sk_ret y i 3 = true) (hv : ∃ a, v = .ref a) : jv_ret (jv_ym y).2.2 i [v] = some (some v) := by
  obtain ⟨w, rfl⟩ := hv
  have hk : sk_r3 i (jv_ym y).2.2 = true := hk
  unfold sk_r3 at hk
  generalize (jv_ym y).2.2 = rt at hk ⊢
  split at hk
  · exact rfl
  · cases hk
theorem sk_ret_4 {v : Value} (hk : sk_ret y i 4 = true) (hv : ∃ a, v = .float a) : jv_ret (jv_ym y).2.2 i [v] = some (some v) := by
  obtain ⟨w, rfl⟩ := hv
  have hk : sk_r4 i (jv_ym y).2.2 = true := hk
  unfold sk_r4 at hk
  generalize (jv_ym y).2.2 = rt at hk ⊢
  split at hk
  · exact rfl
  · cases hk
theorem sk_ret_5 {v : Value} (hk : sk_ret y i 5 = true) (hv : ∃ a, v = .double a) : jv_ret (jv_ym y).2.2 i [v] = some (some v) := by
  obtain ⟨w, rfl⟩ := hv
  have hk : sk_r5 i (jv_ym y).2.2 = true := hk
  unfold sk_r5 at hk
  generalize (jv_ym y).2.2 = rt at hk ⊢
  split at hk
  · exact rfl
  · cases hk
theorem s_to32 {z : Int} (h1 : -2147483648 ≤ z) (h2 : z < 2147483648) : (Int32.ofInt z).toInt = z := Int32.toInt_ofInt_of_le (by omega) (by omega)
theorem k_tab (hrun : ∀ env f rest H, run env f rest H = true → sSnd env f rest H) (X : sX ρ L xs env rest H gs y pc i len t SL st Lv vs h) {a : Nat} (hk : sk_tab pc i a = true) (hr : so_tab sc_meth run env y a SL st rest H = true) : sG gs y pc Lv vs h := by
  obtain ⟨hρ, hE, hy, hcode, hok, hL, hS, hrs, hH⟩ := id X
  unfold sk_tab at hk
  split at hk
  · rename_i d lo hi offs
    obtain ⟨hk1, hk2⟩ := s_and hk
    obtain ⟨rfl, hd, hlo1, hlo2, hhi1, hhi2⟩ := of_decide_eq_true hk1
    unfold so_tab at hr
    split at hr
    · rename_i x r
      obtain ⟨v1, vs1, rfl, hsx, hS⟩ := hS
      rw [hcode] at hr
      have hsx2 := sr_res hE hsx
      have hr : s_lt env (s_res env x) (Int32.ofInt lo).toUInt32.toNat (fun env => s_goto sc_meth run env y ((a : Int) + d).toNat SL r rest H)
        (fun env => s_lt env (Int32.ofInt hi).toUInt32.toNat (s_res env x) (fun env => s_goto sc_meth run env y ((a : Int) + d).toNat SL r rest H)
          (fun env => s_conc env (s_res env x) (fun x env => match offs[((Int32.ofNat x).toInt - lo).toNat]? with
            | some off => s_goto sc_meth run env y ((a : Int) + off).toNat SL r rest H
            | none => false))) = true := hr
      obtain ⟨w, rfl⟩ := sI_of (s_lt_int hr).1 hsx2
      have hbr : jv_br (.tableswitch d lo hi offs) a (.int w :: vs1) = (if w.toInt < lo ∨ hi < w.toInt then jv_jmp a d vs1 else match offs[(w.toInt - lo).toNat]? with
        | some off => jv_jmp a off vs1
        | none => none) := rfl
      have go : ∀ (off : Int) (env' : sE), 0 ≤ (a : Int) + off → sEk ρ env' → jv_br (.tableswitch d lo hi offs) a (.int w :: vs1) = jv_jmp a off vs1 → s_goto sc_meth run env' y ((a : Int) + off).toNat SL r rest H = true → sG gs y a Lv (.int w :: vs1) h := by
        intro off env' h0 hE' hb1 hr'
        refine sX_step X rfl rfl (st_br (pc' := ((a : Int) + off).toNat) (vs' := vs1) rfl rfl ?_) (s_goto_ok hrun hρ hE' hy hL hS hrs hH hr')
        rw [hb1]
        unfold jv_jmp
        rw [if_pos h0]
      rcases s_lt_ok hr hE hsx2 (sr_lit _) with ⟨hc, env', hE', hr⟩ | ⟨hc, env', hE', hr⟩
      · refine go d env' hd hE' ?_ hr
        rw [Int32.lt_iff_toInt_lt, s_to32 hlo1 hlo2] at hc
        rw [hbr, if_pos (Or.inl hc)]
      · have hsx3 := sr_res hE' hsx
        rcases s_lt_ok hr hE' (sr_lit _) hsx3 with ⟨hc2, env2, hE2, hr⟩ | ⟨hc2, env2, hE2, hr⟩
        · refine go d env2 hd hE2 ?_ hr
          rw [Int32.lt_iff_toInt_lt, s_to32 hhi1 hhi2] at hc2
          rw [hbr, if_pos (Or.inr hc2)]
        · have hsx4 := sr_res hE2 hsx
          obtain ⟨z, env3, hE3, hz, hw, hr⟩ := s_conc_ok hr hE2 hsx4
          rw [← hw] at hr
          split at hr
          · rename_i off hoff
            have h0 : 0 ≤ (a : Int) + off := by
              have h3 := List.all_eq_true.mp hk2 off (Array.mem_toList_iff.mpr (Array.mem_of_getElem? hoff))
              exact of_decide_eq_true h3
            refine go off env3 h0 hE3 ?_ hr
            rw [Int32.lt_iff_toInt_lt, s_to32 hlo1 hlo2] at hc
            rw [Int32.lt_iff_toInt_lt, s_to32 hhi1 hhi2] at hc2
            rw [hbr, if_neg (fun e => e.elim hc hc2), hoff]
          · cases hr
    · cases hr
  · cases hk
theorem k_lsw (hrun : ∀ env f rest H, run env f rest H = true → sSnd env f rest H) (X : sX ρ L xs env rest H gs y pc i len t SL st Lv vs h) {a : Nat} (hk : sk_lsw pc i a = true) (hr : so_lsw sc_meth run env y a SL st rest H = true) : sG gs y pc Lv vs h := by
  obtain ⟨hρ, hE, hy, hcode, hok, hL, hS, hrs, hH⟩ := id X
  unfold sk_lsw at hk
  split at hk
  · rename_i d ps
    obtain ⟨hk1, hk2⟩ := s_and hk
    obtain ⟨hsort, hk2⟩ := s_and hk2
    obtain ⟨rfl, hd, hne0⟩ := of_decide_eq_true hk1
    unfold so_lsw at hr
    split at hr
    · rename_i x r
      obtain ⟨v1, vs1, rfl, hsx, hS⟩ := hS
      rw [hcode] at hr
      have hsx2 := sr_res hE hsx
      have hr : s_lsw sc_meth run y a SL rest H (s_res env x) r d ps.toList env = true := hr
      have hall : ∀ p ∈ ps.toList, 0 ≤ (a : Int) + p.2 ∧ -2147483648 ≤ p.1 ∧ p.1 < 2147483648 := fun p hp => of_decide_eq_true (List.all_eq_true.mp hk2 p hp)
      have key : ∀ (l : List (Int × Int)) (env' : sE) (X0 : Nat), (∀ p ∈ l, 0 ≤ (a : Int) + p.2 ∧ -2147483648 ≤ p.1 ∧ p.1 < 2147483648) → l ≠ [] ∨ (∃ w, v1 = .int w) → sEk ρ env' → sr ρ X0 v1 → s_lsw sc_meth run y a SL rest H X0 r d l env' = true →
          ∃ (w : Int32) (off : Int) (env2 : sE), v1 = .int w ∧ sEk ρ env2 ∧ 0 ≤ (a : Int) + off ∧ Op.lookupswitch.offset l d w.toInt = off ∧ s_goto sc_meth run env2 y ((a : Int) + off).toNat SL r rest H = true := by
        intro l
        induction l with
        | nil =>
          intro env' X0 _ hne hE' hs' hr'
          rcases hne with e | ⟨w, hw⟩
          · exact absurd rfl e
          · exact ⟨w, d, env', hw, hE', hd, rfl, hr'⟩
        | cons p l ih =>
          intro env' X0 hal _ hE' hs' hr'
          obtain ⟨k, off⟩ := p
          have hr' : s_eq env' X0 (Int32.ofInt k).toUInt32.toNat (fun env => s_goto sc_meth run env y ((a : Int) + off).toNat SL r rest H) (s_lsw sc_meth run y a SL rest H X0 r d l) = true := hr'
          obtain ⟨p1, p2, p3⟩ := hal (k, off) List.mem_cons_self
          obtain ⟨w, hw⟩ := sI_of (s_eq_int hr').1 hs'
          rw [hw] at hs'
          rcases s_eq_ok hr' hE' hs' (sr_lit _) with ⟨hc, env2, hE2, hr2⟩ | ⟨hc, env2, hE2, hr2⟩
          · refine ⟨w, off, env2, hw, hE2, p1, ?_, hr2⟩
            rw [Op.lookupswitch.offset_cons, if_pos]
            rw [hc, s_to32 p2 p3]
          · obtain ⟨w2, off2, env3, hw2, hE3, h0, ho, hr3⟩ := ih env2 X0 (fun q hq => hal q (List.mem_cons_of_mem _ hq)) (Or.inr ⟨w, hw⟩) hE2 (by rw [hw]; exact hs') hr2
            rw [hw] at hw2
            cases hw2
            refine ⟨w, off2, env3, hw, hE3, h0, ?_, hr3⟩
            rw [Op.lookupswitch.offset_cons, if_neg]
            · exact ho
            · intro e
              apply hc
              apply Int32.toInt_inj.1
              rw [s_to32 p2 p3]
              exact e.symm
      have hv1 : ps.toList ≠ [] ∨ ∃ w, v1 = .int w := Or.inl (fun e => by rw [e] at hne0; exact absurd hne0 (by decide))
      obtain ⟨w, off, env2, rfl, hE2, h0, ho, hr2⟩ := key _ env _ hall hv1 hE hsx2 hr
      refine sX_step X rfl rfl (st_br (pc' := ((a : Int) + off).toNat) (vs' := vs1) rfl rfl ?_) (s_goto_ok hrun hρ hE2 hy hL hS hrs hH hr2)
      show (if (ps.toList.zip (ps.toList.drop 1)).all (fun (a, next) => a.1 < next.1) = true then jv_jmp a (Op.lookupswitch.offset ps.toList d w.toInt) vs1 else none) = _
      rw [if_pos hsort, ho]
      unfold jv_jmp
      rw [if_pos h0]
    · cases hr
  · cases hk
theorem sr_dec {x : Nat} {u v : Value} (h : s_dec x = some u) (hs : sr ρ x v) : v = u := by
  unfold s_dec at h
  cases h1 : Nat.blt x sM with
  | true =>
    rw [h1, c_t] at h
    cases h
    exact sr_num (b_lt h1) hs
  | false =>
    rw [h1, c_f] at h
    cases h2 : Nat.ble sDBL x with
    | true =>
      rw [h2, c_t] at h
      cases h
      obtain ⟨w, rfl⟩ := sr_dbl h2 hs
      have hx : x = 1208925819614629174706176 + w.toNat := hs
      have e : x - 1208925819614629174706176 = w.toNat := by omega
      show Value.double w = .double (UInt64.ofNat (x - 1208925819614629174706176))
      rw [e, UInt64.ofNat_toNat]
    | false =>
      rw [h2, c_f] at h
      cases h3 : Nat.ble sFLT x with
      | false => rw [h3, c_f] at h; cases h
      | true =>
        rw [h3, c_t] at h
        cases h
        have h4 : 1099511627776 ≤ x := b_le h3
        have h5 : x < 1208925819614629174706176 := b_nle h2
        have h6 : 4294967296 ≤ x := b_nlt h1
        cases v with
        | float w =>
          have hx : x = 1099511627776 + w.toNat := hs
          have e : x - 1099511627776 = w.toNat := by omega
          show Value.float w = .float (UInt32.ofNat (x - 1099511627776))
          rw [e, UInt32.ofNat_toNat]
        | int w =>
          rcases hs with ⟨h7, -⟩ | ⟨k, hk, hk2, -⟩ | hu
          · have : x < 4294967296 := h7
            omega
          · have : x = 17179869184 + k := hk2
            omega
          · have : x = 17179869284 := hu
            omega
        | ref a =>
          have r := sRf_num hs
          omega
        | null =>
          have : x = 17179869286 := hs
          omega
        | double w =>
          have : x = 1208925819614629174706176 + w.toNat := hs
          omega
        | long w => cases hs
        | retAddr w => cases hs
theorem jp_1 {x v : Value} (hi : i = .i2f ∨ i = .i2d ∨ i = .f2d) (h0 : jv_pure i [x] = some [v]) : (∀ r, jv_pure i (x :: r) = some (v :: r)) ∧ sr ρ (s_enc v) v := by
  rcases hi with rfl | rfl | rfl
  · cases x <;> first | (cases h0; done) | skip
    rename_i w
    have h0 : some [Value.float (FP.i2f w)] = some [v] := h0
    cases h0
    exact ⟨fun r => rfl, rfl⟩
  · cases x <;> first | (cases h0; done) | skip
    rename_i w
    have h0 : some [Value.double (FP.i2d w)] = some [v] := h0
    cases h0
    exact ⟨fun r => rfl, rfl⟩
  · cases x <;> first | (cases h0; done) | skip
    rename_i w
    have h0 : (if (FP.f2d w) &&& 0x7fffffffffffffff ≤ 0x7ff0000000000000 then some [Value.double (FP.f2d w)] else none) = some [v] := h0
    split at h0
    · rename_i hc
      cases h0
      exact ⟨fun r => if_pos hc, rfl⟩
    · cases h0
theorem jp_2 {x z v : Value} (hi : i = .fdiv ∨ i = .ddiv ∨ ∃ op, i = .dcmp op) (h0 : jv_pure i [x, z] = some [v]) : (∀ r, jv_pure i (x :: z :: r) = some (v :: r)) ∧ sr ρ (s_enc v) v := by
  rcases hi with rfl | rfl | ⟨op, rfl⟩
  · cases x <;> first | (cases h0; done) | skip
    cases z <;> first | (cases h0; done) | skip
    rename_i w w2
    have h0 : (if (FP.fdiv w2 w) &&& 0x7fffffff ≤ 0x7f800000 then some [Value.float (FP.fdiv w2 w)] else none) = some [v] := h0
    split at h0
    · rename_i hc
      cases h0
      exact ⟨fun r => if_pos hc, rfl⟩
    · cases h0
  · cases x <;> first | (cases h0; done) | skip
    cases z <;> first | (cases h0; done) | skip
    rename_i w w2
    have h0 : (if (FP.ddiv w2 w) &&& 0x7fffffffffffffff ≤ 0x7ff0000000000000 then some [Value.double (FP.ddiv w2 w)] else none) = some [v] := h0
    split at h0
    · rename_i hc
      cases h0
      exact ⟨fun r => if_pos hc, rfl⟩
    · cases h0
  · cases x <;> first | (cases h0; done) | skip
    cases z <;> first | (cases h0; done) | skip
    rename_i w w2
    have h0 : some [Value.int (Op.cmpValue (FP.dcmp w2 w) op)] = some [v] := h0
    cases h0
    exact ⟨fun r => rfl, sr_lit _⟩
theorem jp_0 {v : Value} (hi : (∃ k, i = .fconst k) ∨ ∃ k, i = .dconst k) (h0 : jv_pure i [] = some [v]) : (∀ r, jv_pure i r = some (v :: r)) ∧ sr ρ (s_enc v) v := by
  rcases hi with ⟨k, rfl⟩ | ⟨k, rfl⟩
  · have h0 : (if k = 0 then some [Value.float FP.fconst0] else none) = some [v] := h0
    split at h0
    · rename_i hc
      cases h0
      exact ⟨fun r => if_pos hc, rfl⟩
    · cases h0
  · have h0 : (if k = 0 then some [Value.double FP.dconst0] else none) = some [v] := h0
    split at h0
    · rename_i hc
      cases h0
      exact ⟨fun r => if_pos hc, rfl⟩
    · cases h0
theorem k_pure (hrun : ∀ env f rest H, run env f rest H = true → sSnd env f rest H) (X : sX ρ L xs env rest H gs y pc i len t SL st Lv vs h) {a b : Nat} (hk : sk_pure pc i a b = true) (hr : so_pure run env y (pc + len) t a b SL st rest H = true) : sG gs y pc Lv vs h := by
  obtain ⟨hρ, hE, hy, hcode, hok, hL, hS, hrs, hH⟩ := id X
  have kind : a = pc ∧ jv_isR i = false ∧ jv_isC i = none ∧ ((b = 0 ∧ ((∃ k, i = .fconst k) ∨ ∃ k, i = .dconst k)) ∨ (b = 1 ∧ (i = .i2f ∨ i = .i2d ∨ i = .f2d)) ∨ (b = 2 ∧ (i = .fdiv ∨ i = .ddiv ∨ ∃ op, i = .dcmp op))) := by
    unfold sk_pure at hk
    split at hk
    · obtain ⟨e1, e2⟩ := of_decide_eq_true hk
      exact ⟨e1, rfl, rfl, Or.inl ⟨e2, Or.inl ⟨_, rfl⟩⟩⟩
    · obtain ⟨e1, e2⟩ := of_decide_eq_true hk
      exact ⟨e1, rfl, rfl, Or.inl ⟨e2, Or.inr ⟨_, rfl⟩⟩⟩
    · obtain ⟨e1, e2⟩ := of_decide_eq_true hk
      exact ⟨e1, rfl, rfl, Or.inr (Or.inl ⟨e2, Or.inl rfl⟩)⟩
    · obtain ⟨e1, e2⟩ := of_decide_eq_true hk
      exact ⟨e1, rfl, rfl, Or.inr (Or.inl ⟨e2, Or.inr (Or.inl rfl)⟩)⟩
    · obtain ⟨e1, e2⟩ := of_decide_eq_true hk
      exact ⟨e1, rfl, rfl, Or.inr (Or.inl ⟨e2, Or.inr (Or.inr rfl)⟩)⟩
    · obtain ⟨e1, e2⟩ := of_decide_eq_true hk
      exact ⟨e1, rfl, rfl, Or.inr (Or.inr ⟨e2, Or.inl rfl⟩)⟩
    · obtain ⟨e1, e2⟩ := of_decide_eq_true hk
      exact ⟨e1, rfl, rfl, Or.inr (Or.inr ⟨e2, Or.inr (Or.inl rfl)⟩)⟩
    · obtain ⟨e1, e2⟩ := of_decide_eq_true hk
      exact ⟨e1, rfl, rfl, Or.inr (Or.inr ⟨e2, Or.inr (Or.inr ⟨_, rfl⟩)⟩)⟩
    · cases hk
  obtain ⟨rfl, hR, hC, kind⟩ := kind
  unfold so_pure at hr
  rw [hcode] at hr
  rcases kind with ⟨rfl, hi⟩ | ⟨rfl, hi⟩ | ⟨rfl, hi⟩
  · have hr : (match jv_pure i [] with
      | some [v] => s_frc (s_enc v) (fun v => run env (y, a + len, t, SL, v :: st) rest H)
      | _ => false) = true := hr
    split at hr
    · rename_i v hv
      rw [s_frc_eq] at hr
      obtain ⟨p1, p2⟩ := jp_0 (ρ := ρ) hi hv
      exact sX_go hrun X hR hC (st_pure (p1 vs)) hr hE hL ⟨v, vs, rfl, p2, hS⟩ hH
    · cases hr
  · have hr : (match (generalizing := false) st with
      | x :: r => match s_dec x with
        | some x => match jv_pure i [x] with
          | some [v] => s_frc (s_enc v) (fun v => run env (y, a + len, t, SL, v :: r) rest H)
          | _ => false
        | none => false
      | _ => false) = true := hr
    split at hr
    · rename_i x r
      obtain ⟨v1, vs1, rfl, hsx, hS⟩ := hS
      split at hr
      · rename_i u hu
        cases sr_dec hu hsx
        split at hr
        · rename_i v hv
          rw [s_frc_eq] at hr
          obtain ⟨p1, p2⟩ := jp_1 (ρ := ρ) hi hv
          exact sX_go hrun X hR hC (st_pure (p1 vs1)) hr hE hL ⟨v, vs1, rfl, p2, hS⟩ hH
        · cases hr
      · cases hr
    · cases hr
  · have hr : (match (generalizing := false) st with
      | x :: z :: r => match s_dec x, s_dec z with
        | some x, some z => match jv_pure i [x, z] with
          | some [v] => s_frc (s_enc v) (fun v => run env (y, a + len, t, SL, v :: r) rest H)
          | _ => false
        | _, _ => false
      | _ => false) = true := hr
    split at hr
    · rename_i x z r
      obtain ⟨v1, vs1, rfl, hsx, v2, vs2, rfl, hsz, hS⟩ := hS
      split at hr
      · rename_i u u2 hu hu2
        cases sr_dec hu hsx
        cases sr_dec hu2 hsz
        split at hr
        · rename_i v hv
          rw [s_frc_eq] at hr
          obtain ⟨p1, p2⟩ := jp_2 (ρ := ρ) hi hv
          exact sX_go hrun X hR hC (st_pure (p1 vs2)) hr hE hL ⟨v, vs2, rfl, p2, hS⟩ hH
        · cases hr
      · cases hr
    · cases hr
end SOK3
end
section
/-! THE S MACHINE IS RIGHT: the dispatch, the run -/
section SMR
variable {run : sRun} {ρ : Nat → Int32} {L : Nat} {xs : Nat → Int32} {env : sE} {rest : List sF} {H : sH} {gs : List jF} {y pc : Nat} {i : Instr} {len : Nat} {t : List sI} {SL st : List Nat} {Lv : List (Option Value)} {vs : List Value} {h : jv_H}
theorem sm_op_lt {op a b : Nat} {meth : Nat → List sI} (hr : sm_op meth run env y pc t op a b SL st rest H = true) : op < 51 := by
  rcases Nat.lt_or_ge op 51 with q | q
  · exact q
  · exfalso
    have bb : ∀ k, k ≤ 51 → Nat.blt op k = false := fun k hk => by
      cases e : Nat.blt op k with
      | true => have := b_lt e; omega
      | false => rfl
    have e50 : Nat.beq op 50 = false := by
      cases e : Nat.beq op 50 with
      | true => have := b_eq e; omega
      | false => rfl
    unfold sm_op at hr
    rw [bb 25 (by decide), c_f, bb 38 (by decide), c_f, bb 44 (by decide), c_f, bb 47 (by decide), c_f, bb 49 (by decide), c_f, bb 50 (by decide), c_f, e50, c_f] at hr
    cases hr
theorem len_if {a b : Nat} (hl : jv_sw i = true ∨ len = jv_len i) (hk : sk_if pc i a b = true) : len = 3 := by
  unfold sk_if at hk
  split at hk
  · exact jv_len1 hl rfl
  · cases hk
theorem len_icmp {a b : Nat} (hl : jv_sw i = true ∨ len = jv_len i) (hk : sk_icmp pc i a b = true) : len = 3 := by
  unfold sk_icmp at hk
  split at hk
  · exact jv_len1 hl rfl
  · cases hk
theorem len_C {q : Nat × Nat} (hl : jv_sw i = true ∨ len = jv_len i) (hC : jv_isC i = some q) : len = 3 := by
  obtain ⟨ck, idx⟩ := q
  rcases jv_isC_eq hC with ⟨-, rfl⟩ | ⟨-, rfl⟩ | ⟨-, rfl⟩ <;> exact jv_len1 hl rfl
theorem len_call {a b : Nat} (hl : jv_sw i = true ∨ len = jv_len i) (hk : sk_call y i a b = true) : len = 3 := by
  unfold sk_call at hk
  split at hk
  · rename_i hC _ _
    exact len_C hl hC
  · cases hk
theorem len_spec {z ck fr0 lo0 : Nat} (hl : jv_sw i = true ∨ len = jv_len i) (hk : sk_spec y i z ck fr0 lo0 = true) : len = 3 := by
  obtain ⟨idx, ow, kd, na, mL, fr, lo, na', ne, hC, -⟩ := sk_spec_eq hk
  exact len_C hl hC
theorem pv_0 (x : Nat) (v : Value) (ty : FieldType) (ok : s_isI x = true) (hs : sr ρ x v) (hk : pv_k 0 ty = true) : narrow ty v = v ∧ fits ty v = true := by
  obtain ⟨w, rfl⟩ := sr_int ok hs
  cases ty <;> first | (cases hk; done) | exact ⟨rfl, rfl⟩
theorem pv_1 (x : Nat) (v : Value) (ty : FieldType) (ok : s_is01 x = true) (hs : sr ρ x v) (hk : pv_k 1 ty = true) : narrow ty v = v ∧ fits ty v = true := by
  obtain ⟨w, rfl, hw⟩ := s_01 ok hs
  cases ty <;> first | (cases hk; done) | skip
  rcases hw with rfl | rfl <;> exact ⟨by decide, by decide⟩
theorem pv_2 (x : Nat) (v : Value) (ty : FieldType) (ok : s_isR x = true) (hs : sr ρ x v) (hk : pv_k 2 ty = true) : narrow ty v = v ∧ fits ty v = true := by
  have e := (sr_ref ok hs).1
  obtain ⟨u, hu⟩ : ∃ u, u = x - sREF := ⟨_, rfl⟩
  rw [← hu] at e
  subst e
  cases ty <;> first | (cases hk; done) | exact ⟨rfl, rfl⟩
theorem sr_flt {x : Nat} {v : Value} (hx : s_isF x = true) (h : sr ρ x v) : ∃ u, v = .float u := by
  obtain ⟨q1, q2⟩ := s_and hx
  have h1 : 1099511627776 ≤ x := b_le q1
  have h2 : x < 1208925819614629174706176 := b_lt q2
  cases v with
  | float w => exact ⟨w, rfl⟩
  | int w =>
    rcases h with ⟨h7, -⟩ | ⟨k, hk, hk2, -⟩ | hu
    · have : x < 4294967296 := h7
      omega
    · have : x = 17179869184 + k := hk2
      omega
    · have : x = 17179869284 := hu
      omega
  | ref a =>
    have r := sRf_num h
    omega
  | null =>
    have : x = 17179869286 := h
    omega
  | double w =>
    have : x = 1208925819614629174706176 + w.toNat := h
    omega
  | long w => cases h
  | retAddr w => cases h
theorem k_okd {x v : Nat} (h : s_okd x v = true) : x < 2147483648 ∧ v < 2147483648 ∧ 0 < v := by
  obtain ⟨q1, q⟩ := s_and h
  obtain ⟨q2, q3⟩ := s_and q
  exact ⟨b_lt q1, b_lt q2, b_lt q3⟩
set_option maxHeartbeats 8000000 in
theorem sm_op_ok (hrun : ∀ env f rest H, run env f rest H = true → sSnd env f rest H) (X : sX ρ L xs env rest H gs y pc i len t SL st Lv vs h) {op a b : Nat} (hl : jv_sw i = true ∨ len = jv_len i) (hk : sk1 y pc i op a b = true) (hr : sm_op sc_meth run env y (pc + len) t op a b SL st rest H = true) : sG gs y pc Lv vs h := by
  have h51 := sm_op_lt hr
  match op, h51, hk, hr with
  | 0, _, hk, hr =>
    have hr : so_const run env y (pc + len) t a SL st rest H = true := hr
    exact k_const hrun X hk hr
  | 1, _, hk, hr =>
    have hr : so_iload run env y (pc + len) t a SL st rest H = true := hr
    exact k_iload hrun X hk hr
  | 2, _, hk, hr =>
    have hr : so_aload run env y (pc + len) t a SL st rest H = true := hr
    exact k_aload hrun X hk hr
  | 3, _, hk, hr =>
    have hr : so_dload run env y (pc + len) t a SL st rest H = true := hr
    exact k_dload hrun X hk hr
  | 4, _, hk, hr =>
    have hr : so_istore run env y (pc + len) t a SL st rest H = true := hr
    exact k_istore hrun X hk hr
  | 5, _, hk, hr =>
    have hr : so_astore run env y (pc + len) t a SL st rest H = true := hr
    exact k_astore hrun X hk hr
  | 6, _, hk, hr =>
    have hr : so_dstore run env y (pc + len) t a SL st rest H = true := hr
    exact k_dstore hrun X hk hr
  | 7, _, hk, hr =>
    have hr : so_iinc run env y (pc + len) t a b SL st rest H = true := hr
    exact k_iinc hrun X hk hr
  | 8, _, hk, hr =>
    have hr : so_getf run env y (pc + len) t a b SL st rest H = true := hr
    exact k_getf hrun X hk hr
  | 9, _, hk, hr =>
    have hr : so_putf run env y (pc + len) t a b SL st rest H s_isI = true := hr
    exact k_putf hrun X (kd := 0) hk pv_0 hr
  | 10, _, hk, hr =>
    have hr : so_putf run env y (pc + len) t a b SL st rest H s_is01 = true := hr
    exact k_putf hrun X (kd := 1) hk pv_1 hr
  | 11, _, hk, hr =>
    have hr : so_putf run env y (pc + len) t a b SL st rest H s_isR = true := hr
    exact k_putf hrun X (kd := 2) hk pv_2 hr
  | 12, _, hk, hr =>
    have hr : s_goto sc_meth run env y a SL st rest H = true := hr
    exact k_goto hrun X hk hr
  | 13, _, hk, hr =>
    have hr : so_if sc_meth run env y (pc + len) t a b SL st rest H = true := hr
    exact k_if hrun X hk (len_if hl hk) hr
  | 14, _, hk, hr =>
    have hr : so_icmp sc_meth run env y (pc + len) t a b SL st rest H = true := hr
    exact k_icmp hrun X hk (len_icmp hl hk) hr
  | 15, _, hk, hr =>
    have hr : so_two run env y (pc + len) t SL st rest H (fun x v => (x + v) % sM) (fun _ _ => true) = true := hr
    have hk := of_decide_eq_true hk
    subst hk
    exact k_two hrun X (g := fun x y => x + y) rfl rfl (fun x v r hx hv _ => ⟨rfl, Nat.mod_lt _ (by decide), a_add x v⟩) hr
  | 16, _, hk, hr =>
    have hr : so_two run env y (pc + len) t SL st rest H (fun x v => (x + sM - v) % sM) (fun _ _ => true) = true := hr
    have hk := of_decide_eq_true hk
    subst hk
    exact k_two hrun X (g := fun x y => x - y) rfl rfl (fun x v r hx hv _ => ⟨rfl, Nat.mod_lt _ (by decide), a_sub hx hv⟩) hr
  | 17, _, hk, hr =>
    have hr : so_two run env y (pc + len) t SL st rest H (fun x v => (x * v) % sM) (fun _ _ => true) = true := hr
    have hk := of_decide_eq_true hk
    subst hk
    exact k_two hrun X (g := fun x y => x * y) rfl rfl (fun x v r hx hv _ => ⟨rfl, Nat.mod_lt _ (by decide), a_mul x v⟩) hr
  | 18, _, hk, hr =>
    have hr : so_two run env y (pc + len) t SL st rest H (fun x v => x / v) s_okd = true := hr
    have hk := of_decide_eq_true hk
    subst hk
    exact k_two hrun X (g := fun x y => x / y) rfl rfl (fun x v r hx hv ok => ⟨if_neg (a_ne0 hv (k_okd ok).2.2), Nat.lt_of_le_of_lt (Nat.div_le_self x v) hx, a_div (k_okd ok).1 (k_okd ok).2.1⟩) hr
  | 19, _, hk, hr =>
    have hr : so_two run env y (pc + len) t SL st rest H (fun x v => x % v) s_okd = true := hr
    have hk := of_decide_eq_true hk
    subst hk
    exact k_two hrun X (g := fun x y => x - x / y * y) rfl rfl (fun x v r hx hv ok => ⟨if_neg (a_ne0 hv (k_okd ok).2.2), Nat.lt_of_le_of_lt (Nat.mod_le x v) hx, a_rem (k_okd ok).1 (k_okd ok).2.1 (k_okd ok).2.2⟩) hr
  | 20, _, hk, hr =>
    have hr : so_iand run env y (pc + len) t SL st rest H = true := hr
    have hk := of_decide_eq_true hk
    exact k_iand hrun X hk hr
  | 21, _, hk, hr =>
    have hr : so_ishr run env y (pc + len) t SL st rest H = true := hr
    have hk := of_decide_eq_true hk
    exact k_ishr hrun X hk hr
  | 22, _, hk, hr =>
    have hr : so_two run env y (pc + len) t SL st rest H Nat.xor (fun _ _ => true) = true := hr
    have hk := of_decide_eq_true hk
    subst hk
    exact k_two hrun X (g := fun x y => x ^^^ y) rfl rfl (fun x v r hx hv _ => ⟨rfl, Nat.xor_lt_two_pow (n := 32) hx hv, a_xor x v⟩) hr
  | 23, _, hk, hr =>
    have hr : so_iald run env y (pc + len) t SL st rest H = true := hr
    have hk := of_decide_eq_true hk
    exact k_iald hrun X hk hr
  | 24, _, hk, hr =>
    have hr : so_bald run env y (pc + len) t SL st rest H = true := hr
    have hk := of_decide_eq_true hk
    exact k_bald hrun X hk hr
  | 25, _, hk, hr =>
    have hr : so_aald run env y (pc + len) t SL st rest H = true := hr
    have hk := of_decide_eq_true hk
    exact k_aald hrun X hk hr
  | 26, _, hk, hr =>
    have hr : so_ast run env y (pc + len) t SL st rest H 0 s_isI = true := hr
    have hk := of_decide_eq_true hk
    exact k_iast hrun X hk hr
  | 27, _, hk, hr =>
    have hr : so_ast run env y (pc + len) t SL st rest H 1 s_is01 = true := hr
    have hk := of_decide_eq_true hk
    exact k_bast hrun X hk hr
  | 28, _, hk, hr =>
    have hr : so_aast run env y (pc + len) t SL st rest H = true := hr
    have hk := of_decide_eq_true hk
    exact k_aast hrun X hk hr
  | 29, _, hk, hr =>
    have hr : so_alen run env y (pc + len) t SL st rest H = true := hr
    have hk := of_decide_eq_true hk
    exact k_alen hrun X hk hr
  | 30, _, hk, hr =>
    have hr : so_new run env y (pc + len) t a SL st rest H = true := hr
    exact k_new hrun X hk hr
  | 31, _, hk, hr =>
    have hr : so_newa run env y (pc + len) t a SL st rest H 0 = true := hr
    exact k_newa hrun X hk hr
  | 32, _, hk, hr =>
    have hr : so_newa run env y (pc + len) t a SL st rest H sNUL = true := hr
    exact k_anew hrun X hk hr
  | 33, _, hk, hr =>
    have hr : so_dup run env y (pc + len) t SL st rest H = true := hr
    have hk := of_decide_eq_true hk
    exact k_dup hrun X hk hr
  | 34, _, hk, hr =>
    have hr : so_dup2 run env y (pc + len) t SL st rest H = true := hr
    have hk := of_decide_eq_true hk
    exact k_dup2 hrun X hk hr
  | 35, _, hk, hr =>
    have hr : so_pop run env y (pc + len) t SL st rest H = true := hr
    have hk := of_decide_eq_true hk
    exact k_pop hrun X hk hr
  | 36, _, hk, hr =>
    have hr : so_call sc_meth run env y (pc + len) t a b SL st rest H = true := hr
    exact k_call hrun X hk (len_call hl hk) hr
  | 37, _, hk, hr =>
    have hr : so_obj run env y (pc + len) t SL st rest H = true := hr
    exact k_obj hrun X hk (len_spec hl hk) hr
  | 38, _, hk, hr =>
    have hr : so_slen run env y (pc + len) t SL st rest H = true := hr
    exact k_slen hrun X hk (len_spec hl hk) hr
  | 39, _, hk, hr =>
    have hr : so_sat run env y (pc + len) t SL st rest H = true := hr
    exact k_sat hrun X hk (len_spec hl hk) hr
  | 40, _, hk, hr =>
    have hr : so_vret run env st rest H = true := hr
    exact k_vret hrun X hk hr
  | 41, _, hk, hr =>
    have hr : so_ret run env st rest H s_isI = true := hr
    exact k_ret hrun X (fun x v ok hs => sk_ret_1 hk (sr_int ok hs)) hr
  | 42, _, hk, hr =>
    have hr : so_ret run env st rest H s_is01 = true := hr
    exact k_ret hrun X (fun x v ok hs => sk_ret_2 hk (s_01 ok hs)) hr
  | 43, _, hk, hr =>
    have hr : so_ret run env st rest H s_isR = true := hr
    exact k_ret hrun X (fun x v ok hs => sk_ret_3 hk ⟨_, (sr_ref ok hs).1⟩) hr
  | 44, _, hk, hr =>
    have hr : so_ret run env st rest H s_isF = true := hr
    exact k_ret hrun X (fun x v ok hs => sk_ret_4 hk (sr_flt ok hs)) hr
  | 45, _, hk, hr =>
    have hr : so_ret run env st rest H s_isD = true := hr
    exact k_ret hrun X (fun x v ok hs => sk_ret_5 hk (sr_dbl ok hs)) hr
  | 46, _, hk, hr =>
    have hr : so_tab sc_meth run env y a SL st rest H = true := hr
    exact k_tab hrun X hk hr
  | 47, _, hk, hr =>
    have hr : so_pure run env y (pc + len) t a b SL st rest H = true := hr
    exact k_pure hrun X hk hr
  | 48, _, hk, hr =>
    have hr : so_const run env y (pc + len) t a SL st rest H = true := hr
    exact k_ldc hrun X 0 hk hr
  | 49, _, hk, hr =>
    have hr : so_const run env y (pc + len) t a SL st rest H = true := hr
    exact k_ldc hrun X 1 hk hr
  | 50, _, hk, hr =>
    have hr : so_lsw sc_meth run env y a SL st rest H = true := hr
    exact k_lsw hrun X hk hr
  | n + 51, h51, _, _ => exact absurd h51 (by omega)
end SMR
/-- what the S machine answers with true, the law does -/
theorem sm_sound {stopf : sRun} (hs : ∀ env f rest H, stopf env f rest H = true → sSnd env f rest H) : ∀ (n : Nat) (env : sE) (f : sF) (rest : List sF) (H : sH), sm_run stopf sc_meth n env f rest H = true → sSnd env f rest H
  | 0, _, _, _, _, h => by cases h
  | n + 1, env, f, rest, H, hr => by
    have hr : cond (stopf env f rest H) true (match (generalizing := false) f with
      | (_, _, [], _, _) => false
      | (y, pc, (op, a, b, len) :: t, SL, st) => sm_op sc_meth (sm_run stopf sc_meth n) env y (pc + len) t op a b SL st rest H) = true := hr
    rcases s_c2 hr with ⟨q, -⟩ | ⟨-, hr⟩
    · exact hs _ _ _ _ q
    · split at hr
      · cases hr
      · rename_i y pc op a b len t SL st hx1 hx2
        intro L xs ρ hρ hE gs Lv vs h hy hok hL hS hrs hH
        have hok : (s_k y pc (op, a, b, len) && s_ok y (pc + len) t) = true := hok
        obtain ⟨h1, h2⟩ := s_and hok
        unfold s_k at h1
        split at h1
        · rename_i i len2 hcode
          obtain ⟨h3, h4⟩ := s_and h1
          have e : len2 = len := b_eq h3
          subst e
          exact sm_op_ok (sm_sound hs n) ⟨hρ, hE, hy, hcode, h2, hL, hS, hrs, hH⟩ (jv_code_ok hcode).2 h4 hr
        · cases h1
end
section
/-! THE S MACHINE RUNS: heaps that say the same, the law's loop head -/
noncomputable def s_sameC (c d : Nat × Nat × (Nat → Nat)) : Bool := Nat.beq c.1 d.1 && (Nat.beq c.2.1 d.2.1 && s_all (fun j => Nat.beq (c.2.2 j) (d.2.2 j)) 0 c.2.1)
noncomputable def s_sameH (H K : sH) : Bool := Nat.beq H.2.1 K.2.1 && (Nat.beq H.2.2 K.2.2 && s_all (fun a => s_sameC (H.1 a) (K.1 a)) 0 H.2.1)
noncomputable def s_eqL (l : List Nat) : List Nat → Bool := List.rec (motive := fun _ => List Nat → Bool) (fun k => match k with
  | [] => true
  | _ => false) (fun x _ ih k => match k with
  | [] => false
  | z :: k' => Nat.beq x z && ih k') l
theorem s_eqL_ok : ∀ (l k : List Nat), s_eqL l k = true → l = k
  | [], [], _ => rfl
  | [], z :: k, h => by cases h
  | x :: l, [], h => by cases h
  | x :: l, z :: k, h => by
    obtain ⟨h1, h2⟩ := s_and (show (Nat.beq x z && s_eqL l k) = true from h)
    rw [b_eq h1, s_eqL_ok l k h2]
noncomputable def s_stop (K : sH) (KL : List Nat) : sRun := fun _ f rest H => match rest with
  | [] => cond (Nat.beq f.1 271 && Nat.beq f.2.1 18) (s_eqL f.2.2.2.1 KL && (s_eqL f.2.2.2.2 [] && s_sameH H K)) false
  | _ => false
noncomputable def s_no : sRun := fun _ _ _ _ => false
theorem s_all0 {f : Nat → Bool} {n : Nat} (h : s_all f 0 n = true) : ∀ i, i < n → f i = true := fun i hi => s_all_ok n i h (Nat.zero_le i) (by omega)
theorem sCk_same {ρ : Nat → Int32} {c d : Nat × Nat × (Nat → Nat)} {x : jv_E} (hs : s_sameC c d = true) (hc : sCk ρ c x) : sCk ρ d x := by
  obtain ⟨h1, h2⟩ := s_and hs
  obtain ⟨h2, h3⟩ := s_and h2
  have h1 := b_eq h1
  have h2 := b_eq h2
  have h4 : ∀ j, j < c.2.1 → c.2.2 j = d.2.2 j := fun j hj => b_eq (s_all0 h3 j hj)
  match x, hc with
  | .inl (ty, n, f), hc =>
    obtain ⟨e1, e2, e3, e4⟩ := hc
    exact ⟨by rw [← h1]; exact e1, e2, by rw [← h2]; exact e3, fun j hj => by rw [← h4 j (by omega)]; exact e4 j hj⟩
  | .inr (.inl (ty, n, f)), hc =>
    obtain ⟨e1, e2, e3, e4⟩ := hc
    exact ⟨by rw [← h1]; exact e1, e2, by rw [← h2]; exact e3, fun j hj => by rw [← h4 j (by omega)]; exact e4 j hj⟩
  | .inr (.inr (dc, fs)), hc =>
    obtain ⟨e1, e2, e3⟩ := hc
    refine ⟨by rw [← h1]; exact e1, by rw [← h2]; exact e2, fun j v hj => ?_⟩
    have hlt : j < fs.length := (List.getElem?_eq_some_iff.mp hj).1
    rw [← h4 j (by omega)]
    exact e3 j v hj
theorem sHk_same {ρ : Nat → Int32} {L : Nat} {xs : Nat → Int32} {H K : sH} {h : jv_H} (hs : s_sameH H K = true) (hH : sHk ρ L xs H h) : sHk ρ L xs K h := by
  obtain ⟨h1, h2⟩ := s_and hs
  obtain ⟨h2, h3⟩ := s_and h2
  have h1 := b_eq h1
  have h2 := b_eq h2
  obtain ⟨e1, e2, e3, e4, e5⟩ := hH
  exact ⟨by rw [← h1]; exact e1, by rw [← h2]; exact e2, by rw [← h1]; exact e3, e4, fun a ha => sCk_same (s_all0 h3 a (by omega)) (e5 a (by omega))⟩
def sAt (K : sH) (KL : List Nat) : Prop := ∀ (L : Nat) (xs ρ : Nat → Int32), sRho L xs ρ → ∀ (h : jv_H) (Lv : List (Option Value)), sL ρ KL Lv → sHk ρ L xs K h → sG [] 271 18 Lv [] h
theorem s_stop_ok {K : sH} {KL : List Nat} (hA : sAt K KL) (env : sE) (f : sF) (rest : List sF) (H : sH) (hr : s_stop K KL env f rest H = true) : sSnd env f rest H := by
  unfold s_stop at hr
  split at hr
  · obtain ⟨q, hr⟩ := s_c1 hr
    obtain ⟨q1, q2⟩ := s_and q
    obtain ⟨q3, hr⟩ := s_and hr
    obtain ⟨q4, q5⟩ := s_and hr
    obtain ⟨y, pc, l, SL, st⟩ := f
    have e1 : y = 271 := b_eq q1
    have e2 : pc = 18 := b_eq q2
    have e3 : SL = KL := s_eqL_ok _ _ q3
    have e4 : st = [] := s_eqL_ok _ _ q4
    subst e1
    subst e2
    subst e3
    subst e4
    intro L xs ρ hρ hE gs Lv st h hy hok hL hS hrs hH
    have hgs : gs = [] := hrs
    have hst : st = [] := hS
    subst hgs
    subst hst
    exact hA L xs ρ hρ h Lv hL (sHk_same q5 hH)
  · cases hr
def s_env1 (e f a b c d : Nat) : sE := [(0, 4294967295), (e, f), (0, 4294967295), (0, 4294967295), (0, 4294967295), (0, 4294967295), (a, b), (c, d)]
def s_env (a b c d : Nat) : sE := s_env1 0 4294967295 a b c d
theorem s_full (w : Int32) : 0 ≤ sb w ∧ sb w ≤ 4294967295 := by
  have h1 : sb w < 4294967296 := sb_max w
  omega
theorem sEk_of {ρ : Nat → Int32} {e f a b c d : Nat} (h1 : e ≤ sb (ρ 1) ∧ sb (ρ 1) ≤ f) (h6 : a ≤ sb (ρ 6) ∧ sb (ρ 6) ≤ b) (h7 : c ≤ sb (ρ 7) ∧ sb (ρ 7) ≤ d) : sEk ρ (s_env1 e f a b c d) := by
  intro k
  match k with
  | 0 => exact s_full _
  | 1 => exact h1
  | 2 => exact s_full _
  | 3 => exact s_full _
  | 4 => exact s_full _
  | 5 => exact s_full _
  | 6 => exact h6
  | 7 => exact h7
  | k + 8 => exact s_full _
theorem sRho_6 {L : Nat} {xs ρ : Nat → Int32} (h : sRho L xs ρ) : sb (ρ 6) = L + 2147483648 ∧ L ≤ 6 := by
  obtain ⟨h1, -, h2, -⟩ := h
  have e : L < sM := Nat.lt_of_le_of_lt h1 (by decide)
  rw [h2, sb_of e, (s_bias_eq L).1 (by omega)]
  exact ⟨rfl, h1⟩
theorem sRho_7 {L : Nat} {xs ρ : Nat → Int32} (h : sRho L xs ρ) : ∃ k, k < 64 ∧ sb (ρ 7) = k + 2147483648 := by
  obtain ⟨-, -, -, h3⟩ := h
  have e0 := (a_enc (xs 0)).2
  have e63 : (63 : Int32) = Int32.ofNat 63 := rfl
  have hle : Nat.land (xs 0).toUInt32.toNat 63 ≤ 63 := Nat.and_le_right
  refine ⟨Nat.land (xs 0).toUInt32.toNat 63, Nat.lt_succ_of_le hle, ?_⟩
  rw [h3, e0, e63, a_and]
  rw [← e0]
  rw [sb_of (Nat.lt_of_le_of_lt hle (by decide)), (s_bias_eq _).1 (Nat.lt_of_le_of_lt hle (by decide))]
noncomputable def sc_l18 : List sI := match s_find (sc_meth 271) 0 18 with
  | some l => l
  | none => []
theorem sc_l18_ok : s_ok 271 18 sc_l18 = true := by
  unfold sc_l18
  split
  · rename_i l hl
    exact s_find_ok _ 0 (sc_ok 271 (by decide)) hl
  · rfl
noncomputable def sh_0 : List (Nat × Nat × (Nat → Nat)) := [(23, 10, s_nth [4294967298, 4294967297, 4294967301, 4294967302, 4294967328, 4294967354, 4294967355, 4294967408, 4294967409, 4294967294]), (18, 6, s_nth [4294967298, 4294967300, 0, 0, 0, 0]), (20, 2, s_nth [4294967299, 0]), (0, 1000, fun _ => 0), (22, 10, s_nth [0, 0, 0, 0, 0, 0, 0, 0, 0, 0]), (19, 3, s_nth [0, 0, 0]), (21, 13, s_nth [4294967303, 4294967324, 4294967325, 4294967326, 4, 1, 0, 0, 0, 0, 0, 0, 0]), (2, 20, s_nth [4294967304, 4294967305, 4294967306, 4294967307, 4294967308, 4294967309, 4294967310, 4294967311, 4294967312, 4294967313, 4294967314, 4294967315, 4294967316, 4294967317, 4294967318, 4294967319, 4294967320, 4294967321, 4294967322, 4294967323]), (22, 10, s_nth [0, 0, 0, 0, 0, 0, 0, 0, 0, 0]), (22, 10, s_nth [0, 0, 0, 0, 0, 0, 0, 0, 0, 0]), (22, 10, s_nth [0, 0, 0, 0, 0, 0, 0, 0, 0, 0]), (22, 10, s_nth [0, 0, 0, 0, 0, 0, 0, 0, 0, 0]), (22, 10, s_nth [0, 0, 0, 0, 0, 0, 0, 0, 0, 0]), (22, 10, s_nth [0, 0, 0, 0, 0, 0, 0, 0, 0, 0]), (22, 10, s_nth [0, 0, 0, 0, 0, 0, 0, 0, 0, 0]), (22, 10, s_nth [0, 0, 0, 0, 0, 0, 0, 0, 0, 0])]
noncomputable def sh_1 : List (Nat × Nat × (Nat → Nat)) := [(22, 10, s_nth [0, 0, 0, 0, 0, 0, 0, 0, 0, 0]), (22, 10, s_nth [0, 0, 0, 0, 0, 0, 0, 0, 0, 0]), (22, 10, s_nth [0, 0, 0, 0, 0, 0, 0, 0, 0, 0]), (22, 10, s_nth [0, 0, 0, 0, 0, 0, 0, 0, 0, 0]), (22, 10, s_nth [0, 0, 0, 0, 0, 0, 0, 0, 0, 0]), (22, 10, s_nth [0, 0, 0, 0, 0, 0, 0, 0, 0, 0]), (22, 10, s_nth [0, 0, 0, 0, 0, 0, 0, 0, 0, 0]), (22, 10, s_nth [0, 0, 0, 0, 0, 0, 0, 0, 0, 0]), (22, 10, s_nth [0, 0, 0, 0, 0, 0, 0, 0, 0, 0]), (22, 10, s_nth [0, 0, 0, 0, 0, 0, 0, 0, 0, 0]), (22, 10, s_nth [0, 0, 0, 0, 0, 0, 0, 0, 0, 0]), (22, 10, s_nth [0, 0, 0, 0, 0, 0, 0, 0, 0, 0]), (22, 10, s_nth [0, 0, 0, 0, 0, 0, 0, 0, 0, 0]), (0, 50, fun _ => 0), (16, 3, s_nth [4294967327, 0, 0]), (0, 120, fun _ => 0)]
noncomputable def sh_2 : List (Nat × Nat × (Nat → Nat)) := [(21, 13, s_nth [4294967329, 4294967350, 4294967351, 4294967352, 4, 1, 0, 0, 0, 0, 0, 0, 0]), (2, 20, s_nth [4294967330, 4294967331, 4294967332, 4294967333, 4294967334, 4294967335, 4294967336, 4294967337, 4294967338, 4294967339, 4294967340, 4294967341, 4294967342, 4294967343, 4294967344, 4294967345, 4294967346, 4294967347, 4294967348, 4294967349]), (22, 10, s_nth [0, 0, 0, 0, 0, 0, 0, 0, 0, 0]), (22, 10, s_nth [0, 0, 0, 0, 0, 0, 0, 0, 0, 0]), (22, 10, s_nth [0, 0, 0, 0, 0, 0, 0, 0, 0, 0]), (22, 10, s_nth [0, 0, 0, 0, 0, 0, 0, 0, 0, 0]), (22, 10, s_nth [0, 0, 0, 0, 0, 0, 0, 0, 0, 0]), (22, 10, s_nth [0, 0, 0, 0, 0, 0, 0, 0, 0, 0]), (22, 10, s_nth [0, 0, 0, 0, 0, 0, 0, 0, 0, 0]), (22, 10, s_nth [0, 0, 0, 0, 0, 0, 0, 0, 0, 0]), (22, 10, s_nth [0, 0, 0, 0, 0, 0, 0, 0, 0, 0]), (22, 10, s_nth [0, 0, 0, 0, 0, 0, 0, 0, 0, 0]), (22, 10, s_nth [0, 0, 0, 0, 0, 0, 0, 0, 0, 0]), (22, 10, s_nth [0, 0, 0, 0, 0, 0, 0, 0, 0, 0]), (22, 10, s_nth [0, 0, 0, 0, 0, 0, 0, 0, 0, 0]), (22, 10, s_nth [0, 0, 0, 0, 0, 0, 0, 0, 0, 0])]
noncomputable def sh_3 : List (Nat × Nat × (Nat → Nat)) := [(22, 10, s_nth [0, 0, 0, 0, 0, 0, 0, 0, 0, 0]), (22, 10, s_nth [0, 0, 0, 0, 0, 0, 0, 0, 0, 0]), (22, 10, s_nth [0, 0, 0, 0, 0, 0, 0, 0, 0, 0]), (22, 10, s_nth [0, 0, 0, 0, 0, 0, 0, 0, 0, 0]), (22, 10, s_nth [0, 0, 0, 0, 0, 0, 0, 0, 0, 0]), (22, 10, s_nth [0, 0, 0, 0, 0, 0, 0, 0, 0, 0]), (22, 10, s_nth [0, 0, 0, 0, 0, 0, 0, 0, 0, 0]), (0, 50, fun _ => 0), (16, 3, s_nth [4294967353, 0, 0]), (0, 120, fun _ => 0), (22, 10, s_nth [0, 0, 0, 0, 0, 0, 0, 0, 0, 0]), (3, 2, s_nth [4294967356, 4294967382]), (21, 13, s_nth [4294967357, 4294967378, 4294967379, 4294967380, 4, 1, 0, 0, 0, 0, 0, 0, 0]), (2, 20, s_nth [4294967358, 4294967359, 4294967360, 4294967361, 4294967362, 4294967363, 4294967364, 4294967365, 4294967366, 4294967367, 4294967368, 4294967369, 4294967370, 4294967371, 4294967372, 4294967373, 4294967374, 4294967375, 4294967376, 4294967377]), (22, 10, s_nth [0, 0, 0, 0, 0, 0, 0, 0, 0, 0]), (22, 10, s_nth [0, 0, 0, 0, 0, 0, 0, 0, 0, 0])]
noncomputable def sh_4 : List (Nat × Nat × (Nat → Nat)) := [(22, 10, s_nth [0, 0, 0, 0, 0, 0, 0, 0, 0, 0]), (22, 10, s_nth [0, 0, 0, 0, 0, 0, 0, 0, 0, 0]), (22, 10, s_nth [0, 0, 0, 0, 0, 0, 0, 0, 0, 0]), (22, 10, s_nth [0, 0, 0, 0, 0, 0, 0, 0, 0, 0]), (22, 10, s_nth [0, 0, 0, 0, 0, 0, 0, 0, 0, 0]), (22, 10, s_nth [0, 0, 0, 0, 0, 0, 0, 0, 0, 0]), (22, 10, s_nth [0, 0, 0, 0, 0, 0, 0, 0, 0, 0]), (22, 10, s_nth [0, 0, 0, 0, 0, 0, 0, 0, 0, 0]), (22, 10, s_nth [0, 0, 0, 0, 0, 0, 0, 0, 0, 0]), (22, 10, s_nth [0, 0, 0, 0, 0, 0, 0, 0, 0, 0]), (22, 10, s_nth [0, 0, 0, 0, 0, 0, 0, 0, 0, 0]), (22, 10, s_nth [0, 0, 0, 0, 0, 0, 0, 0, 0, 0]), (22, 10, s_nth [0, 0, 0, 0, 0, 0, 0, 0, 0, 0]), (22, 10, s_nth [0, 0, 0, 0, 0, 0, 0, 0, 0, 0]), (22, 10, s_nth [0, 0, 0, 0, 0, 0, 0, 0, 0, 0]), (22, 10, s_nth [0, 0, 0, 0, 0, 0, 0, 0, 0, 0])]
noncomputable def sh_5 : List (Nat × Nat × (Nat → Nat)) := [(22, 10, s_nth [0, 0, 0, 0, 0, 0, 0, 0, 0, 0]), (22, 10, s_nth [0, 0, 0, 0, 0, 0, 0, 0, 0, 0]), (22, 10, s_nth [0, 0, 0, 0, 0, 0, 0, 0, 0, 0]), (0, 50, fun _ => 0), (16, 3, s_nth [4294967381, 0, 0]), (0, 120, fun _ => 0), (21, 13, s_nth [4294967383, 4294967404, 4294967405, 4294967406, 4, 1, 0, 0, 0, 0, 0, 0, 0]), (2, 20, s_nth [4294967384, 4294967385, 4294967386, 4294967387, 4294967388, 4294967389, 4294967390, 4294967391, 4294967392, 4294967393, 4294967394, 4294967395, 4294967396, 4294967397, 4294967398, 4294967399, 4294967400, 4294967401, 4294967402, 4294967403]), (22, 10, s_nth [0, 0, 0, 0, 0, 0, 0, 0, 0, 0]), (22, 10, s_nth [0, 0, 0, 0, 0, 0, 0, 0, 0, 0]), (22, 10, s_nth [0, 0, 0, 0, 0, 0, 0, 0, 0, 0]), (22, 10, s_nth [0, 0, 0, 0, 0, 0, 0, 0, 0, 0]), (22, 10, s_nth [0, 0, 0, 0, 0, 0, 0, 0, 0, 0]), (22, 10, s_nth [0, 0, 0, 0, 0, 0, 0, 0, 0, 0]), (22, 10, s_nth [0, 0, 0, 0, 0, 0, 0, 0, 0, 0]), (22, 10, s_nth [0, 0, 0, 0, 0, 0, 0, 0, 0, 0])]
noncomputable def sh_6 : List (Nat × Nat × (Nat → Nat)) := [(22, 10, s_nth [0, 0, 0, 0, 0, 0, 0, 0, 0, 0]), (22, 10, s_nth [0, 0, 0, 0, 0, 0, 0, 0, 0, 0]), (22, 10, s_nth [0, 0, 0, 0, 0, 0, 0, 0, 0, 0]), (22, 10, s_nth [0, 0, 0, 0, 0, 0, 0, 0, 0, 0]), (22, 10, s_nth [0, 0, 0, 0, 0, 0, 0, 0, 0, 0]), (22, 10, s_nth [0, 0, 0, 0, 0, 0, 0, 0, 0, 0]), (22, 10, s_nth [0, 0, 0, 0, 0, 0, 0, 0, 0, 0]), (22, 10, s_nth [0, 0, 0, 0, 0, 0, 0, 0, 0, 0]), (22, 10, s_nth [0, 0, 0, 0, 0, 0, 0, 0, 0, 0]), (22, 10, s_nth [0, 0, 0, 0, 0, 0, 0, 0, 0, 0]), (22, 10, s_nth [0, 0, 0, 0, 0, 0, 0, 0, 0, 0]), (22, 10, s_nth [0, 0, 0, 0, 0, 0, 0, 0, 0, 0]), (22, 10, s_nth [0, 0, 0, 0, 0, 0, 0, 0, 0, 0]), (0, 50, fun _ => 0), (16, 3, s_nth [4294967407, 0, 0]), (0, 120, fun _ => 0)]
noncomputable def sh_7 : List (Nat × Nat × (Nat → Nat)) := [(1, 2, fun _ => 0), (17, 3, s_nth [4294967410, 0, 0]), (3, 8, s_nth [4294967411, 4294967437, 4294967463, 4294967489, 4294967515, 4294967541, 4294967567, 4294967593]), (21, 13, s_nth [4294967412, 4294967433, 4294967434, 4294967435, 4, 1, 0, 0, 0, 0, 0, 0, 0]), (2, 20, s_nth [4294967413, 4294967414, 4294967415, 4294967416, 4294967417, 4294967418, 4294967419, 4294967420, 4294967421, 4294967422, 4294967423, 4294967424, 4294967425, 4294967426, 4294967427, 4294967428, 4294967429, 4294967430, 4294967431, 4294967432]), (22, 10, s_nth [0, 0, 0, 0, 0, 0, 0, 0, 0, 0]), (22, 10, s_nth [0, 0, 0, 0, 0, 0, 0, 0, 0, 0]), (22, 10, s_nth [0, 0, 0, 0, 0, 0, 0, 0, 0, 0]), (22, 10, s_nth [0, 0, 0, 0, 0, 0, 0, 0, 0, 0]), (22, 10, s_nth [0, 0, 0, 0, 0, 0, 0, 0, 0, 0]), (22, 10, s_nth [0, 0, 0, 0, 0, 0, 0, 0, 0, 0]), (22, 10, s_nth [0, 0, 0, 0, 0, 0, 0, 0, 0, 0]), (22, 10, s_nth [0, 0, 0, 0, 0, 0, 0, 0, 0, 0]), (22, 10, s_nth [0, 0, 0, 0, 0, 0, 0, 0, 0, 0]), (22, 10, s_nth [0, 0, 0, 0, 0, 0, 0, 0, 0, 0]), (22, 10, s_nth [0, 0, 0, 0, 0, 0, 0, 0, 0, 0])]
noncomputable def sh_8 : List (Nat × Nat × (Nat → Nat)) := [(22, 10, s_nth [0, 0, 0, 0, 0, 0, 0, 0, 0, 0]), (22, 10, s_nth [0, 0, 0, 0, 0, 0, 0, 0, 0, 0]), (22, 10, s_nth [0, 0, 0, 0, 0, 0, 0, 0, 0, 0]), (22, 10, s_nth [0, 0, 0, 0, 0, 0, 0, 0, 0, 0]), (22, 10, s_nth [0, 0, 0, 0, 0, 0, 0, 0, 0, 0]), (22, 10, s_nth [0, 0, 0, 0, 0, 0, 0, 0, 0, 0]), (22, 10, s_nth [0, 0, 0, 0, 0, 0, 0, 0, 0, 0]), (22, 10, s_nth [0, 0, 0, 0, 0, 0, 0, 0, 0, 0]), (22, 10, s_nth [0, 0, 0, 0, 0, 0, 0, 0, 0, 0]), (22, 10, s_nth [0, 0, 0, 0, 0, 0, 0, 0, 0, 0]), (0, 50, fun _ => 0), (16, 3, s_nth [4294967436, 0, 0]), (0, 120, fun _ => 0), (21, 13, s_nth [4294967438, 4294967459, 4294967460, 4294967461, 4, 1, 0, 0, 0, 0, 0, 0, 0]), (2, 20, s_nth [4294967439, 4294967440, 4294967441, 4294967442, 4294967443, 4294967444, 4294967445, 4294967446, 4294967447, 4294967448, 4294967449, 4294967450, 4294967451, 4294967452, 4294967453, 4294967454, 4294967455, 4294967456, 4294967457, 4294967458]), (22, 10, s_nth [0, 0, 0, 0, 0, 0, 0, 0, 0, 0])]
noncomputable def sh_9 : List (Nat × Nat × (Nat → Nat)) := [(22, 10, s_nth [0, 0, 0, 0, 0, 0, 0, 0, 0, 0]), (22, 10, s_nth [0, 0, 0, 0, 0, 0, 0, 0, 0, 0]), (22, 10, s_nth [0, 0, 0, 0, 0, 0, 0, 0, 0, 0]), (22, 10, s_nth [0, 0, 0, 0, 0, 0, 0, 0, 0, 0]), (22, 10, s_nth [0, 0, 0, 0, 0, 0, 0, 0, 0, 0]), (22, 10, s_nth [0, 0, 0, 0, 0, 0, 0, 0, 0, 0]), (22, 10, s_nth [0, 0, 0, 0, 0, 0, 0, 0, 0, 0]), (22, 10, s_nth [0, 0, 0, 0, 0, 0, 0, 0, 0, 0]), (22, 10, s_nth [0, 0, 0, 0, 0, 0, 0, 0, 0, 0]), (22, 10, s_nth [0, 0, 0, 0, 0, 0, 0, 0, 0, 0]), (22, 10, s_nth [0, 0, 0, 0, 0, 0, 0, 0, 0, 0]), (22, 10, s_nth [0, 0, 0, 0, 0, 0, 0, 0, 0, 0]), (22, 10, s_nth [0, 0, 0, 0, 0, 0, 0, 0, 0, 0]), (22, 10, s_nth [0, 0, 0, 0, 0, 0, 0, 0, 0, 0]), (22, 10, s_nth [0, 0, 0, 0, 0, 0, 0, 0, 0, 0]), (22, 10, s_nth [0, 0, 0, 0, 0, 0, 0, 0, 0, 0])]
noncomputable def sh_10 : List (Nat × Nat × (Nat → Nat)) := [(22, 10, s_nth [0, 0, 0, 0, 0, 0, 0, 0, 0, 0]), (22, 10, s_nth [0, 0, 0, 0, 0, 0, 0, 0, 0, 0]), (22, 10, s_nth [0, 0, 0, 0, 0, 0, 0, 0, 0, 0]), (22, 10, s_nth [0, 0, 0, 0, 0, 0, 0, 0, 0, 0]), (0, 50, fun _ => 0), (16, 3, s_nth [4294967462, 0, 0]), (0, 120, fun _ => 0), (21, 13, s_nth [4294967464, 4294967485, 4294967486, 4294967487, 4, 1, 0, 0, 0, 0, 0, 0, 0]), (2, 20, s_nth [4294967465, 4294967466, 4294967467, 4294967468, 4294967469, 4294967470, 4294967471, 4294967472, 4294967473, 4294967474, 4294967475, 4294967476, 4294967477, 4294967478, 4294967479, 4294967480, 4294967481, 4294967482, 4294967483, 4294967484]), (22, 10, s_nth [0, 0, 0, 0, 0, 0, 0, 0, 0, 0]), (22, 10, s_nth [0, 0, 0, 0, 0, 0, 0, 0, 0, 0]), (22, 10, s_nth [0, 0, 0, 0, 0, 0, 0, 0, 0, 0]), (22, 10, s_nth [0, 0, 0, 0, 0, 0, 0, 0, 0, 0]), (22, 10, s_nth [0, 0, 0, 0, 0, 0, 0, 0, 0, 0]), (22, 10, s_nth [0, 0, 0, 0, 0, 0, 0, 0, 0, 0]), (22, 10, s_nth [0, 0, 0, 0, 0, 0, 0, 0, 0, 0])]
noncomputable def sh_11 : List (Nat × Nat × (Nat → Nat)) := [(22, 10, s_nth [0, 0, 0, 0, 0, 0, 0, 0, 0, 0]), (22, 10, s_nth [0, 0, 0, 0, 0, 0, 0, 0, 0, 0]), (22, 10, s_nth [0, 0, 0, 0, 0, 0, 0, 0, 0, 0]), (22, 10, s_nth [0, 0, 0, 0, 0, 0, 0, 0, 0, 0]), (22, 10, s_nth [0, 0, 0, 0, 0, 0, 0, 0, 0, 0]), (22, 10, s_nth [0, 0, 0, 0, 0, 0, 0, 0, 0, 0]), (22, 10, s_nth [0, 0, 0, 0, 0, 0, 0, 0, 0, 0]), (22, 10, s_nth [0, 0, 0, 0, 0, 0, 0, 0, 0, 0]), (22, 10, s_nth [0, 0, 0, 0, 0, 0, 0, 0, 0, 0]), (22, 10, s_nth [0, 0, 0, 0, 0, 0, 0, 0, 0, 0]), (22, 10, s_nth [0, 0, 0, 0, 0, 0, 0, 0, 0, 0]), (22, 10, s_nth [0, 0, 0, 0, 0, 0, 0, 0, 0, 0]), (22, 10, s_nth [0, 0, 0, 0, 0, 0, 0, 0, 0, 0]), (22, 10, s_nth [0, 0, 0, 0, 0, 0, 0, 0, 0, 0]), (0, 50, fun _ => 0), (16, 3, s_nth [4294967488, 0, 0])]
noncomputable def sh_12 : List (Nat × Nat × (Nat → Nat)) := [(0, 120, fun _ => 0), (21, 13, s_nth [4294967490, 4294967511, 4294967512, 4294967513, 4, 1, 0, 0, 0, 0, 0, 0, 0]), (2, 20, s_nth [4294967491, 4294967492, 4294967493, 4294967494, 4294967495, 4294967496, 4294967497, 4294967498, 4294967499, 4294967500, 4294967501, 4294967502, 4294967503, 4294967504, 4294967505, 4294967506, 4294967507, 4294967508, 4294967509, 4294967510]), (22, 10, s_nth [0, 0, 0, 0, 0, 0, 0, 0, 0, 0]), (22, 10, s_nth [0, 0, 0, 0, 0, 0, 0, 0, 0, 0]), (22, 10, s_nth [0, 0, 0, 0, 0, 0, 0, 0, 0, 0]), (22, 10, s_nth [0, 0, 0, 0, 0, 0, 0, 0, 0, 0]), (22, 10, s_nth [0, 0, 0, 0, 0, 0, 0, 0, 0, 0]), (22, 10, s_nth [0, 0, 0, 0, 0, 0, 0, 0, 0, 0]), (22, 10, s_nth [0, 0, 0, 0, 0, 0, 0, 0, 0, 0]), (22, 10, s_nth [0, 0, 0, 0, 0, 0, 0, 0, 0, 0]), (22, 10, s_nth [0, 0, 0, 0, 0, 0, 0, 0, 0, 0]), (22, 10, s_nth [0, 0, 0, 0, 0, 0, 0, 0, 0, 0]), (22, 10, s_nth [0, 0, 0, 0, 0, 0, 0, 0, 0, 0]), (22, 10, s_nth [0, 0, 0, 0, 0, 0, 0, 0, 0, 0]), (22, 10, s_nth [0, 0, 0, 0, 0, 0, 0, 0, 0, 0])]
noncomputable def sh_13 : List (Nat × Nat × (Nat → Nat)) := [(22, 10, s_nth [0, 0, 0, 0, 0, 0, 0, 0, 0, 0]), (22, 10, s_nth [0, 0, 0, 0, 0, 0, 0, 0, 0, 0]), (22, 10, s_nth [0, 0, 0, 0, 0, 0, 0, 0, 0, 0]), (22, 10, s_nth [0, 0, 0, 0, 0, 0, 0, 0, 0, 0]), (22, 10, s_nth [0, 0, 0, 0, 0, 0, 0, 0, 0, 0]), (22, 10, s_nth [0, 0, 0, 0, 0, 0, 0, 0, 0, 0]), (22, 10, s_nth [0, 0, 0, 0, 0, 0, 0, 0, 0, 0]), (22, 10, s_nth [0, 0, 0, 0, 0, 0, 0, 0, 0, 0]), (0, 50, fun _ => 0), (16, 3, s_nth [4294967514, 0, 0]), (0, 120, fun _ => 0), (21, 13, s_nth [4294967516, 4294967537, 4294967538, 4294967539, 4, 1, 0, 0, 0, 0, 0, 0, 0]), (2, 20, s_nth [4294967517, 4294967518, 4294967519, 4294967520, 4294967521, 4294967522, 4294967523, 4294967524, 4294967525, 4294967526, 4294967527, 4294967528, 4294967529, 4294967530, 4294967531, 4294967532, 4294967533, 4294967534, 4294967535, 4294967536]), (22, 10, s_nth [0, 0, 0, 0, 0, 0, 0, 0, 0, 0]), (22, 10, s_nth [0, 0, 0, 0, 0, 0, 0, 0, 0, 0]), (22, 10, s_nth [0, 0, 0, 0, 0, 0, 0, 0, 0, 0])]
noncomputable def sh_14 : List (Nat × Nat × (Nat → Nat)) := [(22, 10, s_nth [0, 0, 0, 0, 0, 0, 0, 0, 0, 0]), (22, 10, s_nth [0, 0, 0, 0, 0, 0, 0, 0, 0, 0]), (22, 10, s_nth [0, 0, 0, 0, 0, 0, 0, 0, 0, 0]), (22, 10, s_nth [0, 0, 0, 0, 0, 0, 0, 0, 0, 0]), (22, 10, s_nth [0, 0, 0, 0, 0, 0, 0, 0, 0, 0]), (22, 10, s_nth [0, 0, 0, 0, 0, 0, 0, 0, 0, 0]), (22, 10, s_nth [0, 0, 0, 0, 0, 0, 0, 0, 0, 0]), (22, 10, s_nth [0, 0, 0, 0, 0, 0, 0, 0, 0, 0]), (22, 10, s_nth [0, 0, 0, 0, 0, 0, 0, 0, 0, 0]), (22, 10, s_nth [0, 0, 0, 0, 0, 0, 0, 0, 0, 0]), (22, 10, s_nth [0, 0, 0, 0, 0, 0, 0, 0, 0, 0]), (22, 10, s_nth [0, 0, 0, 0, 0, 0, 0, 0, 0, 0]), (22, 10, s_nth [0, 0, 0, 0, 0, 0, 0, 0, 0, 0]), (22, 10, s_nth [0, 0, 0, 0, 0, 0, 0, 0, 0, 0]), (22, 10, s_nth [0, 0, 0, 0, 0, 0, 0, 0, 0, 0]), (22, 10, s_nth [0, 0, 0, 0, 0, 0, 0, 0, 0, 0])]
noncomputable def sh_15 : List (Nat × Nat × (Nat → Nat)) := [(22, 10, s_nth [0, 0, 0, 0, 0, 0, 0, 0, 0, 0]), (22, 10, s_nth [0, 0, 0, 0, 0, 0, 0, 0, 0, 0]), (0, 50, fun _ => 0), (16, 3, s_nth [4294967540, 0, 0]), (0, 120, fun _ => 0), (21, 13, s_nth [4294967542, 4294967563, 4294967564, 4294967565, 4, 1, 0, 0, 0, 0, 0, 0, 0]), (2, 20, s_nth [4294967543, 4294967544, 4294967545, 4294967546, 4294967547, 4294967548, 4294967549, 4294967550, 4294967551, 4294967552, 4294967553, 4294967554, 4294967555, 4294967556, 4294967557, 4294967558, 4294967559, 4294967560, 4294967561, 4294967562]), (22, 10, s_nth [0, 0, 0, 0, 0, 0, 0, 0, 0, 0]), (22, 10, s_nth [0, 0, 0, 0, 0, 0, 0, 0, 0, 0]), (22, 10, s_nth [0, 0, 0, 0, 0, 0, 0, 0, 0, 0]), (22, 10, s_nth [0, 0, 0, 0, 0, 0, 0, 0, 0, 0]), (22, 10, s_nth [0, 0, 0, 0, 0, 0, 0, 0, 0, 0]), (22, 10, s_nth [0, 0, 0, 0, 0, 0, 0, 0, 0, 0]), (22, 10, s_nth [0, 0, 0, 0, 0, 0, 0, 0, 0, 0]), (22, 10, s_nth [0, 0, 0, 0, 0, 0, 0, 0, 0, 0]), (22, 10, s_nth [0, 0, 0, 0, 0, 0, 0, 0, 0, 0])]
noncomputable def sh_16 : List (Nat × Nat × (Nat → Nat)) := [(22, 10, s_nth [0, 0, 0, 0, 0, 0, 0, 0, 0, 0]), (22, 10, s_nth [0, 0, 0, 0, 0, 0, 0, 0, 0, 0]), (22, 10, s_nth [0, 0, 0, 0, 0, 0, 0, 0, 0, 0]), (22, 10, s_nth [0, 0, 0, 0, 0, 0, 0, 0, 0, 0]), (22, 10, s_nth [0, 0, 0, 0, 0, 0, 0, 0, 0, 0]), (22, 10, s_nth [0, 0, 0, 0, 0, 0, 0, 0, 0, 0]), (22, 10, s_nth [0, 0, 0, 0, 0, 0, 0, 0, 0, 0]), (22, 10, s_nth [0, 0, 0, 0, 0, 0, 0, 0, 0, 0]), (22, 10, s_nth [0, 0, 0, 0, 0, 0, 0, 0, 0, 0]), (22, 10, s_nth [0, 0, 0, 0, 0, 0, 0, 0, 0, 0]), (22, 10, s_nth [0, 0, 0, 0, 0, 0, 0, 0, 0, 0]), (22, 10, s_nth [0, 0, 0, 0, 0, 0, 0, 0, 0, 0]), (0, 50, fun _ => 0), (16, 3, s_nth [4294967566, 0, 0]), (0, 120, fun _ => 0), (21, 13, s_nth [4294967568, 4294967589, 4294967590, 4294967591, 4, 1, 0, 0, 0, 0, 0, 0, 0])]
noncomputable def sh_17 : List (Nat × Nat × (Nat → Nat)) := [(2, 20, s_nth [4294967569, 4294967570, 4294967571, 4294967572, 4294967573, 4294967574, 4294967575, 4294967576, 4294967577, 4294967578, 4294967579, 4294967580, 4294967581, 4294967582, 4294967583, 4294967584, 4294967585, 4294967586, 4294967587, 4294967588]), (22, 10, s_nth [0, 0, 0, 0, 0, 0, 0, 0, 0, 0]), (22, 10, s_nth [0, 0, 0, 0, 0, 0, 0, 0, 0, 0]), (22, 10, s_nth [0, 0, 0, 0, 0, 0, 0, 0, 0, 0]), (22, 10, s_nth [0, 0, 0, 0, 0, 0, 0, 0, 0, 0]), (22, 10, s_nth [0, 0, 0, 0, 0, 0, 0, 0, 0, 0]), (22, 10, s_nth [0, 0, 0, 0, 0, 0, 0, 0, 0, 0]), (22, 10, s_nth [0, 0, 0, 0, 0, 0, 0, 0, 0, 0]), (22, 10, s_nth [0, 0, 0, 0, 0, 0, 0, 0, 0, 0]), (22, 10, s_nth [0, 0, 0, 0, 0, 0, 0, 0, 0, 0]), (22, 10, s_nth [0, 0, 0, 0, 0, 0, 0, 0, 0, 0]), (22, 10, s_nth [0, 0, 0, 0, 0, 0, 0, 0, 0, 0]), (22, 10, s_nth [0, 0, 0, 0, 0, 0, 0, 0, 0, 0]), (22, 10, s_nth [0, 0, 0, 0, 0, 0, 0, 0, 0, 0]), (22, 10, s_nth [0, 0, 0, 0, 0, 0, 0, 0, 0, 0]), (22, 10, s_nth [0, 0, 0, 0, 0, 0, 0, 0, 0, 0])]
noncomputable def sh_18 : List (Nat × Nat × (Nat → Nat)) := [(22, 10, s_nth [0, 0, 0, 0, 0, 0, 0, 0, 0, 0]), (22, 10, s_nth [0, 0, 0, 0, 0, 0, 0, 0, 0, 0]), (22, 10, s_nth [0, 0, 0, 0, 0, 0, 0, 0, 0, 0]), (22, 10, s_nth [0, 0, 0, 0, 0, 0, 0, 0, 0, 0]), (22, 10, s_nth [0, 0, 0, 0, 0, 0, 0, 0, 0, 0]), (22, 10, s_nth [0, 0, 0, 0, 0, 0, 0, 0, 0, 0]), (0, 50, fun _ => 0), (16, 3, s_nth [4294967592, 0, 0]), (0, 120, fun _ => 0), (21, 13, s_nth [4294967594, 4294967615, 4294967616, 4294967617, 4, 1, 0, 0, 0, 0, 0, 0, 0]), (2, 20, s_nth [4294967595, 4294967596, 4294967597, 4294967598, 4294967599, 4294967600, 4294967601, 4294967602, 4294967603, 4294967604, 4294967605, 4294967606, 4294967607, 4294967608, 4294967609, 4294967610, 4294967611, 4294967612, 4294967613, 4294967614]), (22, 10, s_nth [0, 0, 0, 0, 0, 0, 0, 0, 0, 0]), (22, 10, s_nth [0, 0, 0, 0, 0, 0, 0, 0, 0, 0]), (22, 10, s_nth [0, 0, 0, 0, 0, 0, 0, 0, 0, 0]), (22, 10, s_nth [0, 0, 0, 0, 0, 0, 0, 0, 0, 0]), (22, 10, s_nth [0, 0, 0, 0, 0, 0, 0, 0, 0, 0])]
noncomputable def sh_19 : List (Nat × Nat × (Nat → Nat)) := [(22, 10, s_nth [0, 0, 0, 0, 0, 0, 0, 0, 0, 0]), (22, 10, s_nth [0, 0, 0, 0, 0, 0, 0, 0, 0, 0]), (22, 10, s_nth [0, 0, 0, 0, 0, 0, 0, 0, 0, 0]), (22, 10, s_nth [0, 0, 0, 0, 0, 0, 0, 0, 0, 0]), (22, 10, s_nth [0, 0, 0, 0, 0, 0, 0, 0, 0, 0]), (22, 10, s_nth [0, 0, 0, 0, 0, 0, 0, 0, 0, 0]), (22, 10, s_nth [0, 0, 0, 0, 0, 0, 0, 0, 0, 0]), (22, 10, s_nth [0, 0, 0, 0, 0, 0, 0, 0, 0, 0]), (22, 10, s_nth [0, 0, 0, 0, 0, 0, 0, 0, 0, 0]), (22, 10, s_nth [0, 0, 0, 0, 0, 0, 0, 0, 0, 0]), (22, 10, s_nth [0, 0, 0, 0, 0, 0, 0, 0, 0, 0]), (22, 10, s_nth [0, 0, 0, 0, 0, 0, 0, 0, 0, 0]), (22, 10, s_nth [0, 0, 0, 0, 0, 0, 0, 0, 0, 0]), (22, 10, s_nth [0, 0, 0, 0, 0, 0, 0, 0, 0, 0]), (22, 10, s_nth [0, 0, 0, 0, 0, 0, 0, 0, 0, 0]), (22, 10, s_nth [0, 0, 0, 0, 0, 0, 0, 0, 0, 0])]
noncomputable def sh_20 : List (Nat × Nat × (Nat → Nat)) := [(0, 50, fun _ => 0), (16, 3, s_nth [4294967618, 0, 0]), (0, 120, fun _ => 0), (24, 18, s_nth [4294967620, 4294967621, 4294967622, 4294967623, 4294967624, 4294967625, 0, 4294967626, 0, 4294967294, 0, 0, 0, 0, 0, 0, 4294967627, 0]), (0, 330, fun j => cond (Nat.beq j 1) 1 (cond (Nat.beq j 0) 4 (0))), (0, 330, fun _ => 0), (0, 330, fun _ => 0), (0, 2640, fun _ => 0), (0, 660, fun _ => 0), (1, 2, fun _ => 0), (0, 1000, fun _ => 0), (0, 1700, fun _ => 0)]
noncomputable def sh_all : List (List (Nat × Nat × (Nat → Nat))) := [sh_0, sh_1, sh_2, sh_3, sh_4, sh_5, sh_6, sh_7, sh_8, sh_9, sh_10, sh_11, sh_12, sh_13, sh_14, sh_15, sh_16, sh_17, sh_18, sh_19, sh_20]
noncomputable def sh0 : sH := (fun a => s_at (0, 0, fun _ => 0) (s_at [] sh_all (a / 16)) (a % 16), 332, 13058)
def sKL : List Nat := [4295967296, 4294967296, 4294967619, 0, 17179869285, 17179869285, 17179869285, 17179869285]
end
section
/-! THE LAW RUN BY THE KERNEL -/
theorem sr_first : sm_run (s_stop sh0 sKL) sc_meth 6000 (s_env 2147483648 2147483654 2147483648 2147483711) (271, 0, sc_meth 271, [4295967296, sUNS, sUNS, sUNS, sUNS, sUNS, sUNS, sUNS], []) [] (fun _ => (0, 0, fun _ => 0), 0, 0) = true := by decide +kernel
end
