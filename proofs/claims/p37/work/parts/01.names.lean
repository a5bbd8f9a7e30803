-- ===== PART A: goes FIRST, ahead of the names: the tables' words, and 'selects' of the private methods out of them =====
/-- a private method of a class that the tables say can be made, by its rows of tables_1 -/
def lw_okq (q : MethodName × Nat) : Prop := (q.1.cls ≠ "java/lang/invoke/MethodHandle" ∧ q.1.cls ≠ "java/lang/invoke/VarHandle") ∧ Cond.instantiable q.1.cls q.2 ∈ tables_1 ∧ Cond.privateMethod q.1 ∈ tables_1 ∧ Cond.instanceMethod q.1 ∈ tables_1
theorem lw_p0 : lw_okq (⟨"SeatSwap$Tape", "put", "(I)V"⟩, 2) := ⟨⟨by decide +kernel, by decide +kernel⟩, List.mem_of_getElem? (i := 30) (by decide +kernel), List.mem_of_getElem? (i := 307) (by decide +kernel), List.mem_of_getElem? (i := 308) (by decide +kernel)⟩
theorem lw_p1 : lw_okq (⟨"SeatSwap$SetupReader", "begin", "()V"⟩, 6) := ⟨⟨by decide +kernel, by decide +kernel⟩, List.mem_of_getElem? (i := 24) (by decide +kernel), List.mem_of_getElem? (i := 334) (by decide +kernel), List.mem_of_getElem? (i := 335) (by decide +kernel)⟩
theorem lw_p2 : lw_okq (⟨"SeatSwap$SetupReader", "nextToken", "()V"⟩, 6) := ⟨⟨by decide +kernel, by decide +kernel⟩, List.mem_of_getElem? (i := 24) (by decide +kernel), List.mem_of_getElem? (i := 338) (by decide +kernel), List.mem_of_getElem? (i := 339) (by decide +kernel)⟩
theorem lw_p3 : lw_okq (⟨"SeatSwap$SetupReader", "take", "(Ljava/lang/String;)V"⟩, 6) := ⟨⟨by decide +kernel, by decide +kernel⟩, List.mem_of_getElem? (i := 24) (by decide +kernel), List.mem_of_getElem? (i := 350) (by decide +kernel), List.mem_of_getElem? (i := 351) (by decide +kernel)⟩
theorem lw_p4 : lw_okq (⟨"SeatSwap$SetupReader", "isWord", "(Ljava/lang/String;)Z"⟩, 6) := ⟨⟨by decide +kernel, by decide +kernel⟩, List.mem_of_getElem? (i := 24) (by decide +kernel), List.mem_of_getElem? (i := 354) (by decide +kernel), List.mem_of_getElem? (i := 355) (by decide +kernel)⟩
theorem lw_p5 : lw_okq (⟨"SeatSwap$SetupReader", "pass", "(Z)V"⟩, 6) := ⟨⟨by decide +kernel, by decide +kernel⟩, List.mem_of_getElem? (i := 24) (by decide +kernel), List.mem_of_getElem? (i := 406) (by decide +kernel), List.mem_of_getElem? (i := 407) (by decide +kernel)⟩
theorem lw_p6 : lw_okq (⟨"SeatSwap$SetupReader", "takeInt", "(II)I"⟩, 6) := ⟨⟨by decide +kernel, by decide +kernel⟩, List.mem_of_getElem? (i := 24) (by decide +kernel), List.mem_of_getElem? (i := 410) (by decide +kernel), List.mem_of_getElem? (i := 411) (by decide +kernel)⟩
theorem lw_p7 : lw_okq (⟨"SeatSwap$SetupReader", "number", "()I"⟩, 6) := ⟨⟨by decide +kernel, by decide +kernel⟩, List.mem_of_getElem? (i := 24) (by decide +kernel), List.mem_of_getElem? (i := 414) (by decide +kernel), List.mem_of_getElem? (i := 415) (by decide +kernel)⟩
theorem lw_p8 : lw_okq (⟨"SeatSwap$SetupReader", "isSign", "(C)Z"⟩, 6) := ⟨⟨by decide +kernel, by decide +kernel⟩, List.mem_of_getElem? (i := 24) (by decide +kernel), List.mem_of_getElem? (i := 419) (by decide +kernel), List.mem_of_getElem? (i := 420) (by decide +kernel)⟩
theorem lw_p9 : lw_okq (⟨"SeatSwap$SetupReader", "readTraveller", "(LSeatSwap$Train;)V"⟩, 6) := ⟨⟨by decide +kernel, by decide +kernel⟩, List.mem_of_getElem? (i := 24) (by decide +kernel), List.mem_of_getElem? (i := 423) (by decide +kernel), List.mem_of_getElem? (i := 424) (by decide +kernel)⟩
theorem lw_p10 : lw_okq (⟨"SeatSwap$SetupReader", "takeFreeSeat", "(LSeatSwap$Train;)I"⟩, 6) := ⟨⟨by decide +kernel, by decide +kernel⟩, List.mem_of_getElem? (i := 24) (by decide +kernel), List.mem_of_getElem? (i := 432) (by decide +kernel), List.mem_of_getElem? (i := 433) (by decide +kernel)⟩
theorem lw_p11 : lw_okq (⟨"SeatSwap$SetupReader", "takeName", "()I"⟩, 6) := ⟨⟨by decide +kernel, by decide +kernel⟩, List.mem_of_getElem? (i := 24) (by decide +kernel), List.mem_of_getElem? (i := 452) (by decide +kernel), List.mem_of_getElem? (i := 453) (by decide +kernel)⟩
theorem lw_p12 : lw_okq (⟨"SeatSwap$SetupReader", "packedName", "()I"⟩, 6) := ⟨⟨by decide +kernel, by decide +kernel⟩, List.mem_of_getElem? (i := 24) (by decide +kernel), List.mem_of_getElem? (i := 456) (by decide +kernel), List.mem_of_getElem? (i := 457) (by decide +kernel)⟩
theorem lw_p13 : lw_okq (⟨"SeatSwap$SetupReader", "isName", "()Z"⟩, 6) := ⟨⟨by decide +kernel, by decide +kernel⟩, List.mem_of_getElem? (i := 24) (by decide +kernel), List.mem_of_getElem? (i := 460) (by decide +kernel), List.mem_of_getElem? (i := 461) (by decide +kernel)⟩
theorem lw_p14 : lw_okq (⟨"SeatSwap$SetupReader", "isKeyword", "()Z"⟩, 6) := ⟨⟨by decide +kernel, by decide +kernel⟩, List.mem_of_getElem? (i := 24) (by decide +kernel), List.mem_of_getElem? (i := 464) (by decide +kernel), List.mem_of_getElem? (i := 465) (by decide +kernel)⟩
theorem lw_p15 : lw_okq (⟨"SeatSwap$SetupReader", "takeIfThere", "(Ljava/lang/String;)Z"⟩, 6) := ⟨⟨by decide +kernel, by decide +kernel⟩, List.mem_of_getElem? (i := 24) (by decide +kernel), List.mem_of_getElem? (i := 475) (by decide +kernel), List.mem_of_getElem? (i := 476) (by decide +kernel)⟩
def lw_privs_1 : List (MethodName × Nat) := [(⟨"SeatSwap$Tape", "put", "(I)V"⟩, 2), (⟨"SeatSwap$SetupReader", "begin", "()V"⟩, 6), (⟨"SeatSwap$SetupReader", "nextToken", "()V"⟩, 6), (⟨"SeatSwap$SetupReader", "take", "(Ljava/lang/String;)V"⟩, 6), (⟨"SeatSwap$SetupReader", "isWord", "(Ljava/lang/String;)Z"⟩, 6), (⟨"SeatSwap$SetupReader", "pass", "(Z)V"⟩, 6), (⟨"SeatSwap$SetupReader", "takeInt", "(II)I"⟩, 6), (⟨"SeatSwap$SetupReader", "number", "()I"⟩, 6), (⟨"SeatSwap$SetupReader", "isSign", "(C)Z"⟩, 6), (⟨"SeatSwap$SetupReader", "readTraveller", "(LSeatSwap$Train;)V"⟩, 6), (⟨"SeatSwap$SetupReader", "takeFreeSeat", "(LSeatSwap$Train;)I"⟩, 6), (⟨"SeatSwap$SetupReader", "takeName", "()I"⟩, 6), (⟨"SeatSwap$SetupReader", "packedName", "()I"⟩, 6), (⟨"SeatSwap$SetupReader", "isName", "()Z"⟩, 6), (⟨"SeatSwap$SetupReader", "isKeyword", "()Z"⟩, 6), (⟨"SeatSwap$SetupReader", "takeIfThere", "(Ljava/lang/String;)Z"⟩, 6)]
theorem lw_r1 : ∀ q ∈ lw_privs_1, lw_okq q := List.forall_mem_cons.mpr ⟨lw_p0, List.forall_mem_cons.mpr ⟨lw_p1, List.forall_mem_cons.mpr ⟨lw_p2, List.forall_mem_cons.mpr ⟨lw_p3, List.forall_mem_cons.mpr ⟨lw_p4, List.forall_mem_cons.mpr ⟨lw_p5, List.forall_mem_cons.mpr ⟨lw_p6, List.forall_mem_cons.mpr ⟨lw_p7, List.forall_mem_cons.mpr ⟨lw_p8, List.forall_mem_cons.mpr ⟨lw_p9, List.forall_mem_cons.mpr ⟨lw_p10, List.forall_mem_cons.mpr ⟨lw_p11, List.forall_mem_cons.mpr ⟨lw_p12, List.forall_mem_cons.mpr ⟨lw_p13, List.forall_mem_cons.mpr ⟨lw_p14, List.forall_mem_cons.mpr ⟨lw_p15, fun _ h => absurd h List.not_mem_nil⟩⟩⟩⟩⟩⟩⟩⟩⟩⟩⟩⟩⟩⟩⟩⟩
theorem lw_p16 : lw_okq (⟨"SeatSwap$SetupReader", "takeLike", "()I"⟩, 6) := ⟨⟨by decide +kernel, by decide +kernel⟩, List.mem_of_getElem? (i := 24) (by decide +kernel), List.mem_of_getElem? (i := 479) (by decide +kernel), List.mem_of_getElem? (i := 480) (by decide +kernel)⟩
theorem lw_p17 : lw_okq (⟨"SeatSwap$Train", "countAtTable", "(LSeatSwap$Traveller;I)V"⟩, 13) := ⟨⟨by decide +kernel, by decide +kernel⟩, List.mem_of_getElem? (i := 160) (by decide +kernel), List.mem_of_getElem? (i := 495) (by decide +kernel), List.mem_of_getElem? (i := 496) (by decide +kernel)⟩
theorem lw_p18 : lw_okq (⟨"SeatSwap$Past", "trainAt", "(I)LSeatSwap$Train;"⟩, 3) := ⟨⟨by decide +kernel, by decide +kernel⟩, List.mem_of_getElem? (i := 244) (by decide +kernel), List.mem_of_getElem? (i := 536) (by decide +kernel), List.mem_of_getElem? (i := 537) (by decide +kernel)⟩
theorem lw_p19 : lw_okq (⟨"SeatSwap$Log", "indexOf", "(II)I"⟩, 3) := ⟨⟨by decide +kernel, by decide +kernel⟩, List.mem_of_getElem? (i := 169) (by decide +kernel), List.mem_of_getElem? (i := 554) (by decide +kernel), List.mem_of_getElem? (i := 555) (by decide +kernel)⟩
theorem lw_p20 : lw_okq (⟨"SeatSwap$Log", "put", "(II)V"⟩, 3) := ⟨⟨by decide +kernel, by decide +kernel⟩, List.mem_of_getElem? (i := 169) (by decide +kernel), List.mem_of_getElem? (i := 559) (by decide +kernel), List.mem_of_getElem? (i := 560) (by decide +kernel)⟩
theorem lw_p21 : lw_okq (⟨"SeatSwap", "arePair", "(II)Z"⟩, 10) := ⟨⟨by decide +kernel, by decide +kernel⟩, List.mem_of_getElem? (i := 16) (by decide +kernel), List.mem_of_getElem? (i := 596) (by decide +kernel), List.mem_of_getElem? (i := 597) (by decide +kernel)⟩
theorem lw_p22 : lw_okq (⟨"SeatSwap$Train", "membersAt", "(II)I"⟩, 13) := ⟨⟨by decide +kernel, by decide +kernel⟩, List.mem_of_getElem? (i := 160) (by decide +kernel), List.mem_of_getElem? (i := 621) (by decide +kernel), List.mem_of_getElem? (i := 622) (by decide +kernel)⟩
theorem lw_p23 : lw_okq (⟨"SeatSwap$Train", "exchangeSeats", "(II)V"⟩, 13) := ⟨⟨by decide +kernel, by decide +kernel⟩, List.mem_of_getElem? (i := 160) (by decide +kernel), List.mem_of_getElem? (i := 631) (by decide +kernel), List.mem_of_getElem? (i := 632) (by decide +kernel)⟩
theorem lw_p24 : lw_okq (⟨"SeatSwap$Train", "sitDown", "(II)V"⟩, 13) := ⟨⟨by decide +kernel, by decide +kernel⟩, List.mem_of_getElem? (i := 160) (by decide +kernel), List.mem_of_getElem? (i := 635) (by decide +kernel), List.mem_of_getElem? (i := 636) (by decide +kernel)⟩
theorem lw_p25 : lw_okq (⟨"SeatSwap$Train", "passSeats", "(III)V"⟩, 13) := ⟨⟨by decide +kernel, by decide +kernel⟩, List.mem_of_getElem? (i := 160) (by decide +kernel), List.mem_of_getElem? (i := 674) (by decide +kernel), List.mem_of_getElem? (i := 675) (by decide +kernel)⟩
theorem lw_p26 : lw_okq (⟨"SeatSwap", "settleDraft", "()I"⟩, 10) := ⟨⟨by decide +kernel, by decide +kernel⟩, List.mem_of_getElem? (i := 16) (by decide +kernel), List.mem_of_getElem? (i := 690) (by decide +kernel), List.mem_of_getElem? (i := 691) (by decide +kernel)⟩
theorem lw_p27 : lw_okq (⟨"SeatSwap$Train", "letOff", "(I)V"⟩, 13) := ⟨⟨by decide +kernel, by decide +kernel⟩, List.mem_of_getElem? (i := 160) (by decide +kernel), List.mem_of_getElem? (i := 712) (by decide +kernel), List.mem_of_getElem? (i := 713) (by decide +kernel)⟩
theorem lw_p28 : lw_okq (⟨"SeatSwap$Train", "isAt", "(II)Z"⟩, 13) := ⟨⟨by decide +kernel, by decide +kernel⟩, List.mem_of_getElem? (i := 160) (by decide +kernel), List.mem_of_getElem? (i := 787) (by decide +kernel), List.mem_of_getElem? (i := 788) (by decide +kernel)⟩
theorem lw_p29 : lw_okq (⟨"SeatSwap$Train", "seatSign", "(I)I"⟩, 13) := ⟨⟨by decide +kernel, by decide +kernel⟩, List.mem_of_getElem? (i := 160) (by decide +kernel), List.mem_of_getElem? (i := 914) (by decide +kernel), List.mem_of_getElem? (i := 915) (by decide +kernel)⟩
theorem lw_p30 : lw_okq (⟨"SeatSwap$SetupWriter", "putText", "(Ljava/lang/String;)V"⟩, 3) := ⟨⟨by decide +kernel, by decide +kernel⟩, List.mem_of_getElem? (i := 142) (by decide +kernel), List.mem_of_getElem? (i := 928) (by decide +kernel), List.mem_of_getElem? (i := 929) (by decide +kernel)⟩
theorem lw_p31 : lw_okq (⟨"SeatSwap$SetupWriter", "put", "(I)V"⟩, 3) := ⟨⟨by decide +kernel, by decide +kernel⟩, List.mem_of_getElem? (i := 142) (by decide +kernel), List.mem_of_getElem? (i := 934) (by decide +kernel), List.mem_of_getElem? (i := 935) (by decide +kernel)⟩
def lw_privs_2 : List (MethodName × Nat) := [(⟨"SeatSwap$SetupReader", "takeLike", "()I"⟩, 6), (⟨"SeatSwap$Train", "countAtTable", "(LSeatSwap$Traveller;I)V"⟩, 13), (⟨"SeatSwap$Past", "trainAt", "(I)LSeatSwap$Train;"⟩, 3), (⟨"SeatSwap$Log", "indexOf", "(II)I"⟩, 3), (⟨"SeatSwap$Log", "put", "(II)V"⟩, 3), (⟨"SeatSwap", "arePair", "(II)Z"⟩, 10), (⟨"SeatSwap$Train", "membersAt", "(II)I"⟩, 13), (⟨"SeatSwap$Train", "exchangeSeats", "(II)V"⟩, 13), (⟨"SeatSwap$Train", "sitDown", "(II)V"⟩, 13), (⟨"SeatSwap$Train", "passSeats", "(III)V"⟩, 13), (⟨"SeatSwap", "settleDraft", "()I"⟩, 10), (⟨"SeatSwap$Train", "letOff", "(I)V"⟩, 13), (⟨"SeatSwap$Train", "isAt", "(II)Z"⟩, 13), (⟨"SeatSwap$Train", "seatSign", "(I)I"⟩, 13), (⟨"SeatSwap$SetupWriter", "putText", "(Ljava/lang/String;)V"⟩, 3), (⟨"SeatSwap$SetupWriter", "put", "(I)V"⟩, 3)]
theorem lw_r2 : ∀ q ∈ lw_privs_2, lw_okq q := List.forall_mem_cons.mpr ⟨lw_p16, List.forall_mem_cons.mpr ⟨lw_p17, List.forall_mem_cons.mpr ⟨lw_p18, List.forall_mem_cons.mpr ⟨lw_p19, List.forall_mem_cons.mpr ⟨lw_p20, List.forall_mem_cons.mpr ⟨lw_p21, List.forall_mem_cons.mpr ⟨lw_p22, List.forall_mem_cons.mpr ⟨lw_p23, List.forall_mem_cons.mpr ⟨lw_p24, List.forall_mem_cons.mpr ⟨lw_p25, List.forall_mem_cons.mpr ⟨lw_p26, List.forall_mem_cons.mpr ⟨lw_p27, List.forall_mem_cons.mpr ⟨lw_p28, List.forall_mem_cons.mpr ⟨lw_p29, List.forall_mem_cons.mpr ⟨lw_p30, List.forall_mem_cons.mpr ⟨lw_p31, fun _ h => absurd h List.not_mem_nil⟩⟩⟩⟩⟩⟩⟩⟩⟩⟩⟩⟩⟩⟩⟩⟩
theorem lw_p32 : lw_okq (⟨"SeatSwap$SetupWriter", "putNumber", "(I)V"⟩, 3) := ⟨⟨by decide +kernel, by decide +kernel⟩, List.mem_of_getElem? (i := 142) (by decide +kernel), List.mem_of_getElem? (i := 938) (by decide +kernel), List.mem_of_getElem? (i := 939) (by decide +kernel)⟩
theorem lw_p33 : lw_okq (⟨"SeatSwap$SetupWriter", "putTraveller", "(LSeatSwap$Traveller;)V"⟩, 3) := ⟨⟨by decide +kernel, by decide +kernel⟩, List.mem_of_getElem? (i := 142) (by decide +kernel), List.mem_of_getElem? (i := 945) (by decide +kernel), List.mem_of_getElem? (i := 946) (by decide +kernel)⟩
theorem lw_p34 : lw_okq (⟨"SeatSwap$SetupWriter", "putPart", "(Ljava/lang/String;II)V"⟩, 3) := ⟨⟨by decide +kernel, by decide +kernel⟩, List.mem_of_getElem? (i := 142) (by decide +kernel), List.mem_of_getElem? (i := 953) (by decide +kernel), List.mem_of_getElem? (i := 954) (by decide +kernel)⟩
theorem lw_p35 : lw_okq (⟨"SeatSwap$SetupWriter", "putLike", "(Ljava/lang/String;I)V"⟩, 3) := ⟨⟨by decide +kernel, by decide +kernel⟩, List.mem_of_getElem? (i := 142) (by decide +kernel), List.mem_of_getElem? (i := 958) (by decide +kernel), List.mem_of_getElem? (i := 959) (by decide +kernel)⟩
theorem lw_p36 : lw_okq (⟨"SeatSwapModel", "next", "()V"⟩, 18) := ⟨⟨by decide +kernel, by decide +kernel⟩, List.mem_of_getElem? (i := 971) (by decide +kernel), List.mem_of_getElem? (i := 1047) (by decide +kernel), List.mem_of_getElem? (i := 1048) (by decide +kernel)⟩
theorem lw_p37 : lw_okq (⟨"SeatSwapModel", "isSmall", "(I)Z"⟩, 18) := ⟨⟨by decide +kernel, by decide +kernel⟩, List.mem_of_getElem? (i := 971) (by decide +kernel), List.mem_of_getElem? (i := 1051) (by decide +kernel), List.mem_of_getElem? (i := 1052) (by decide +kernel)⟩
theorem lw_p38 : lw_okq (⟨"SeatSwapModel", "nextWord", "()V"⟩, 18) := ⟨⟨by decide +kernel, by decide +kernel⟩, List.mem_of_getElem? (i := 971) (by decide +kernel), List.mem_of_getElem? (i := 1055) (by decide +kernel), List.mem_of_getElem? (i := 1056) (by decide +kernel)⟩
theorem lw_p39 : lw_okq (⟨"SeatSwapModel", "isDigit", "(I)Z"⟩, 18) := ⟨⟨by decide +kernel, by decide +kernel⟩, List.mem_of_getElem? (i := 971) (by decide +kernel), List.mem_of_getElem? (i := 1059) (by decide +kernel), List.mem_of_getElem? (i := 1060) (by decide +kernel)⟩
theorem lw_p40 : lw_okq (⟨"SeatSwapModel", "nextNumber", "()V"⟩, 18) := ⟨⟨by decide +kernel, by decide +kernel⟩, List.mem_of_getElem? (i := 971) (by decide +kernel), List.mem_of_getElem? (i := 1063) (by decide +kernel), List.mem_of_getElem? (i := 1064) (by decide +kernel)⟩
theorem lw_p41 : lw_okq (⟨"SeatSwapModel", "is", "(I)Z"⟩, 18) := ⟨⟨by decide +kernel, by decide +kernel⟩, List.mem_of_getElem? (i := 971) (by decide +kernel), List.mem_of_getElem? (i := 1068) (by decide +kernel), List.mem_of_getElem? (i := 1069) (by decide +kernel)⟩
theorem lw_p42 : lw_okq (⟨"SeatSwapModel", "takes", "(Z)Z"⟩, 18) := ⟨⟨by decide +kernel, by decide +kernel⟩, List.mem_of_getElem? (i := 971) (by decide +kernel), List.mem_of_getElem? (i := 1072) (by decide +kernel), List.mem_of_getElem? (i := 1073) (by decide +kernel)⟩
theorem lw_p43 : lw_okq (⟨"SeatSwapModel", "takesNumber", "(II)I"⟩, 18) := ⟨⟨by decide +kernel, by decide +kernel⟩, List.mem_of_getElem? (i := 971) (by decide +kernel), List.mem_of_getElem? (i := 1076) (by decide +kernel), List.mem_of_getElem? (i := 1077) (by decide +kernel)⟩
theorem lw_p44 : lw_okq (⟨"SeatSwapModel", "readSeat", "()V"⟩, 18) := ⟨⟨by decide +kernel, by decide +kernel⟩, List.mem_of_getElem? (i := 971) (by decide +kernel), List.mem_of_getElem? (i := 1085) (by decide +kernel), List.mem_of_getElem? (i := 1086) (by decide +kernel)⟩
theorem lw_p45 : lw_okq (⟨"SeatSwapModel", "takesWord", "(I)Z"⟩, 18) := ⟨⟨by decide +kernel, by decide +kernel⟩, List.mem_of_getElem? (i := 971) (by decide +kernel), List.mem_of_getElem? (i := 1108) (by decide +kernel), List.mem_of_getElem? (i := 1109) (by decide +kernel)⟩
theorem lw_p46 : lw_okq (⟨"SeatSwapModel", "takesLike", "()I"⟩, 18) := ⟨⟨by decide +kernel, by decide +kernel⟩, List.mem_of_getElem? (i := 971) (by decide +kernel), List.mem_of_getElem? (i := 1114) (by decide +kernel), List.mem_of_getElem? (i := 1115) (by decide +kernel)⟩
theorem lw_p47 : lw_okq (⟨"SeatSwapModel", "tapeName", "()I"⟩, 18) := ⟨⟨by decide +kernel, by decide +kernel⟩, List.mem_of_getElem? (i := 971) (by decide +kernel), List.mem_of_getElem? (i := 1137) (by decide +kernel), List.mem_of_getElem? (i := 1138) (by decide +kernel)⟩
def lw_privs_3 : List (MethodName × Nat) := [(⟨"SeatSwap$SetupWriter", "putNumber", "(I)V"⟩, 3), (⟨"SeatSwap$SetupWriter", "putTraveller", "(LSeatSwap$Traveller;)V"⟩, 3), (⟨"SeatSwap$SetupWriter", "putPart", "(Ljava/lang/String;II)V"⟩, 3), (⟨"SeatSwap$SetupWriter", "putLike", "(Ljava/lang/String;I)V"⟩, 3), (⟨"SeatSwapModel", "next", "()V"⟩, 18), (⟨"SeatSwapModel", "isSmall", "(I)Z"⟩, 18), (⟨"SeatSwapModel", "nextWord", "()V"⟩, 18), (⟨"SeatSwapModel", "isDigit", "(I)Z"⟩, 18), (⟨"SeatSwapModel", "nextNumber", "()V"⟩, 18), (⟨"SeatSwapModel", "is", "(I)Z"⟩, 18), (⟨"SeatSwapModel", "takes", "(Z)Z"⟩, 18), (⟨"SeatSwapModel", "takesNumber", "(II)I"⟩, 18), (⟨"SeatSwapModel", "readSeat", "()V"⟩, 18), (⟨"SeatSwapModel", "takesWord", "(I)Z"⟩, 18), (⟨"SeatSwapModel", "takesLike", "()I"⟩, 18), (⟨"SeatSwapModel", "tapeName", "()I"⟩, 18)]
theorem lw_r3 : ∀ q ∈ lw_privs_3, lw_okq q := List.forall_mem_cons.mpr ⟨lw_p32, List.forall_mem_cons.mpr ⟨lw_p33, List.forall_mem_cons.mpr ⟨lw_p34, List.forall_mem_cons.mpr ⟨lw_p35, List.forall_mem_cons.mpr ⟨lw_p36, List.forall_mem_cons.mpr ⟨lw_p37, List.forall_mem_cons.mpr ⟨lw_p38, List.forall_mem_cons.mpr ⟨lw_p39, List.forall_mem_cons.mpr ⟨lw_p40, List.forall_mem_cons.mpr ⟨lw_p41, List.forall_mem_cons.mpr ⟨lw_p42, List.forall_mem_cons.mpr ⟨lw_p43, List.forall_mem_cons.mpr ⟨lw_p44, List.forall_mem_cons.mpr ⟨lw_p45, List.forall_mem_cons.mpr ⟨lw_p46, List.forall_mem_cons.mpr ⟨lw_p47, fun _ h => absurd h List.not_mem_nil⟩⟩⟩⟩⟩⟩⟩⟩⟩⟩⟩⟩⟩⟩⟩⟩
theorem lw_p48 : lw_okq (⟨"SeatSwapModel", "isSeat", "(I)Z"⟩, 18) := ⟨⟨by decide +kernel, by decide +kernel⟩, List.mem_of_getElem? (i := 971) (by decide +kernel), List.mem_of_getElem? (i := 1141) (by decide +kernel), List.mem_of_getElem? (i := 1142) (by decide +kernel)⟩
theorem lw_p49 : lw_okq (⟨"SeatSwapModel", "keepForUndo", "()V"⟩, 18) := ⟨⟨by decide +kernel, by decide +kernel⟩, List.mem_of_getElem? (i := 971) (by decide +kernel), List.mem_of_getElem? (i := 1145) (by decide +kernel), List.mem_of_getElem? (i := 1146) (by decide +kernel)⟩
theorem lw_p50 : lw_okq (⟨"SeatSwapModel", "tells", "(III)V"⟩, 18) := ⟨⟨by decide +kernel, by decide +kernel⟩, List.mem_of_getElem? (i := 971) (by decide +kernel), List.mem_of_getElem? (i := 1149) (by decide +kernel), List.mem_of_getElem? (i := 1150) (by decide +kernel)⟩
theorem lw_p51 : lw_okq (⟨"SeatSwapModel", "isTraveller", "(I)Z"⟩, 18) := ⟨⟨by decide +kernel, by decide +kernel⟩, List.mem_of_getElem? (i := 971) (by decide +kernel), List.mem_of_getElem? (i := 1157) (by decide +kernel), List.mem_of_getElem? (i := 1158) (by decide +kernel)⟩
theorem lw_p52 : lw_okq (⟨"SeatSwapModel", "isNumber", "(II)Z"⟩, 18) := ⟨⟨by decide +kernel, by decide +kernel⟩, List.mem_of_getElem? (i := 971) (by decide +kernel), List.mem_of_getElem? (i := 1161) (by decide +kernel), List.mem_of_getElem? (i := 1162) (by decide +kernel)⟩
theorem lw_p53 : lw_okq (⟨"SeatSwapModel", "isPair", "(II)Z"⟩, 18) := ⟨⟨by decide +kernel, by decide +kernel⟩, List.mem_of_getElem? (i := 971) (by decide +kernel), List.mem_of_getElem? (i := 1179) (by decide +kernel), List.mem_of_getElem? (i := 1180) (by decide +kernel)⟩
theorem lw_p54 : lw_okq (⟨"SeatSwapModel", "takesSpare", "()V"⟩, 18) := ⟨⟨by decide +kernel, by decide +kernel⟩, List.mem_of_getElem? (i := 971) (by decide +kernel), List.mem_of_getElem? (i := 1243) (by decide +kernel), List.mem_of_getElem? (i := 1244) (by decide +kernel)⟩
theorem lw_p55 : lw_okq (⟨"SeatSwapModel", "stops", "()V"⟩, 18) := ⟨⟨by decide +kernel, by decide +kernel⟩, List.mem_of_getElem? (i := 971) (by decide +kernel), List.mem_of_getElem? (i := 1263) (by decide +kernel), List.mem_of_getElem? (i := 1264) (by decide +kernel)⟩
theorem lw_p56 : lw_okq (⟨"SeatSwapModel", "getsOff", "(I)V"⟩, 18) := ⟨⟨by decide +kernel, by decide +kernel⟩, List.mem_of_getElem? (i := 971) (by decide +kernel), List.mem_of_getElem? (i := 1267) (by decide +kernel), List.mem_of_getElem? (i := 1268) (by decide +kernel)⟩
theorem lw_p57 : lw_okq (⟨"SeatSwapModel", "sweetsAll", "()I"⟩, 18) := ⟨⟨by decide +kernel, by decide +kernel⟩, List.mem_of_getElem? (i := 971) (by decide +kernel), List.mem_of_getElem? (i := 1290) (by decide +kernel), List.mem_of_getElem? (i := 1291) (by decide +kernel)⟩
theorem lw_p58 : lw_okq (⟨"SeatSwapModel", "familiesAll", "()I"⟩, 18) := ⟨⟨by decide +kernel, by decide +kernel⟩, List.mem_of_getElem? (i := 971) (by decide +kernel), List.mem_of_getElem? (i := 1297) (by decide +kernel), List.mem_of_getElem? (i := 1298) (by decide +kernel)⟩
theorem lw_p59 : lw_okq (⟨"SeatSwapModel", "membersOf", "(I)I"⟩, 18) := ⟨⟨by decide +kernel, by decide +kernel⟩, List.mem_of_getElem? (i := 971) (by decide +kernel), List.mem_of_getElem? (i := 1301) (by decide +kernel), List.mem_of_getElem? (i := 1302) (by decide +kernel)⟩
theorem lw_p60 : lw_okq (⟨"SeatSwapModel", "rankOf", "(I)I"⟩, 18) := ⟨⟨by decide +kernel, by decide +kernel⟩, List.mem_of_getElem? (i := 971) (by decide +kernel), List.mem_of_getElem? (i := 1309) (by decide +kernel), List.mem_of_getElem? (i := 1310) (by decide +kernel)⟩
theorem lw_p61 : lw_okq (⟨"SeatSwapModel", "isAtTable", "(II)Z"⟩, 18) := ⟨⟨by decide +kernel, by decide +kernel⟩, List.mem_of_getElem? (i := 971) (by decide +kernel), List.mem_of_getElem? (i := 1328) (by decide +kernel), List.mem_of_getElem? (i := 1329) (by decide +kernel)⟩
theorem lw_p62 : lw_okq (⟨"SeatSwapModel", "familyAt", "(I)I"⟩, 18) := ⟨⟨by decide +kernel, by decide +kernel⟩, List.mem_of_getElem? (i := 971) (by decide +kernel), List.mem_of_getElem? (i := 1332) (by decide +kernel), List.mem_of_getElem? (i := 1333) (by decide +kernel)⟩
theorem lw_p63 : lw_okq (⟨"SeatSwapModel", "membersAt", "(II)I"⟩, 18) := ⟨⟨by decide +kernel, by decide +kernel⟩, List.mem_of_getElem? (i := 971) (by decide +kernel), List.mem_of_getElem? (i := 1336) (by decide +kernel), List.mem_of_getElem? (i := 1337) (by decide +kernel)⟩
def lw_privs_4 : List (MethodName × Nat) := [(⟨"SeatSwapModel", "isSeat", "(I)Z"⟩, 18), (⟨"SeatSwapModel", "keepForUndo", "()V"⟩, 18), (⟨"SeatSwapModel", "tells", "(III)V"⟩, 18), (⟨"SeatSwapModel", "isTraveller", "(I)Z"⟩, 18), (⟨"SeatSwapModel", "isNumber", "(II)Z"⟩, 18), (⟨"SeatSwapModel", "isPair", "(II)Z"⟩, 18), (⟨"SeatSwapModel", "takesSpare", "()V"⟩, 18), (⟨"SeatSwapModel", "stops", "()V"⟩, 18), (⟨"SeatSwapModel", "getsOff", "(I)V"⟩, 18), (⟨"SeatSwapModel", "sweetsAll", "()I"⟩, 18), (⟨"SeatSwapModel", "familiesAll", "()I"⟩, 18), (⟨"SeatSwapModel", "membersOf", "(I)I"⟩, 18), (⟨"SeatSwapModel", "rankOf", "(I)I"⟩, 18), (⟨"SeatSwapModel", "isAtTable", "(II)Z"⟩, 18), (⟨"SeatSwapModel", "familyAt", "(I)I"⟩, 18), (⟨"SeatSwapModel", "membersAt", "(II)I"⟩, 18)]
theorem lw_r4 : ∀ q ∈ lw_privs_4, lw_okq q := List.forall_mem_cons.mpr ⟨lw_p48, List.forall_mem_cons.mpr ⟨lw_p49, List.forall_mem_cons.mpr ⟨lw_p50, List.forall_mem_cons.mpr ⟨lw_p51, List.forall_mem_cons.mpr ⟨lw_p52, List.forall_mem_cons.mpr ⟨lw_p53, List.forall_mem_cons.mpr ⟨lw_p54, List.forall_mem_cons.mpr ⟨lw_p55, List.forall_mem_cons.mpr ⟨lw_p56, List.forall_mem_cons.mpr ⟨lw_p57, List.forall_mem_cons.mpr ⟨lw_p58, List.forall_mem_cons.mpr ⟨lw_p59, List.forall_mem_cons.mpr ⟨lw_p60, List.forall_mem_cons.mpr ⟨lw_p61, List.forall_mem_cons.mpr ⟨lw_p62, List.forall_mem_cons.mpr ⟨lw_p63, fun _ h => absurd h List.not_mem_nil⟩⟩⟩⟩⟩⟩⟩⟩⟩⟩⟩⟩⟩⟩⟩⟩
theorem lw_p64 : lw_okq (⟨"SeatSwapModel", "tablesOfFamily", "(I)I"⟩, 18) := ⟨⟨by decide +kernel, by decide +kernel⟩, List.mem_of_getElem? (i := 971) (by decide +kernel), List.mem_of_getElem? (i := 1344) (by decide +kernel), List.mem_of_getElem? (i := 1345) (by decide +kernel)⟩
theorem lw_p65 : lw_okq (⟨"SeatSwapModel", "joyOfFamily", "(I)I"⟩, 18) := ⟨⟨by decide +kernel, by decide +kernel⟩, List.mem_of_getElem? (i := 971) (by decide +kernel), List.mem_of_getElem? (i := 1348) (by decide +kernel), List.mem_of_getElem? (i := 1349) (by decide +kernel)⟩
theorem lw_p66 : lw_okq (⟨"SeatSwapModel", "layPlan", "()V"⟩, 18) := ⟨⟨by decide +kernel, by decide +kernel⟩, List.mem_of_getElem? (i := 971) (by decide +kernel), List.mem_of_getElem? (i := 1412) (by decide +kernel), List.mem_of_getElem? (i := 1413) (by decide +kernel)⟩
theorem lw_p67 : lw_okq (⟨"SeatSwapModel", "puts", "(I)V"⟩, 18) := ⟨⟨by decide +kernel, by decide +kernel⟩, List.mem_of_getElem? (i := 971) (by decide +kernel), List.mem_of_getElem? (i := 1416) (by decide +kernel), List.mem_of_getElem? (i := 1417) (by decide +kernel)⟩
theorem lw_p68 : lw_okq (⟨"SeatSwapModel", "putsSeat", "(I)V"⟩, 18) := ⟨⟨by decide +kernel, by decide +kernel⟩, List.mem_of_getElem? (i := 971) (by decide +kernel), List.mem_of_getElem? (i := 1420) (by decide +kernel), List.mem_of_getElem? (i := 1421) (by decide +kernel)⟩
theorem lw_p69 : lw_okq (⟨"SeatSwapModel", "writtenAt", "(I)I"⟩, 18) := ⟨⟨by decide +kernel, by decide +kernel⟩, List.mem_of_getElem? (i := 971) (by decide +kernel), List.mem_of_getElem? (i := 1428) (by decide +kernel), List.mem_of_getElem? (i := 1429) (by decide +kernel)⟩
theorem lw_p70 : lw_okq (⟨"SeatSwapModel", "laySetup", "()V"⟩, 18) := ⟨⟨by decide +kernel, by decide +kernel⟩, List.mem_of_getElem? (i := 971) (by decide +kernel), List.mem_of_getElem? (i := 1436) (by decide +kernel), List.mem_of_getElem? (i := 1437) (by decide +kernel)⟩
theorem lw_p71 : lw_okq (⟨"SeatSwapModel", "putsWord", "(I)V"⟩, 18) := ⟨⟨by decide +kernel, by decide +kernel⟩, List.mem_of_getElem? (i := 971) (by decide +kernel), List.mem_of_getElem? (i := 1440) (by decide +kernel), List.mem_of_getElem? (i := 1441) (by decide +kernel)⟩
theorem lw_p72 : lw_okq (⟨"SeatSwapModel", "putsNext", "(I)V"⟩, 18) := ⟨⟨by decide +kernel, by decide +kernel⟩, List.mem_of_getElem? (i := 971) (by decide +kernel), List.mem_of_getElem? (i := 1444) (by decide +kernel), List.mem_of_getElem? (i := 1445) (by decide +kernel)⟩
theorem lw_p73 : lw_okq (⟨"SeatSwapModel", "putsNumber", "(I)V"⟩, 18) := ⟨⟨by decide +kernel, by decide +kernel⟩, List.mem_of_getElem? (i := 971) (by decide +kernel), List.mem_of_getElem? (i := 1448) (by decide +kernel), List.mem_of_getElem? (i := 1449) (by decide +kernel)⟩
theorem lw_p74 : lw_okq (⟨"SeatSwapModel", "putsTraveller", "(I)V"⟩, 18) := ⟨⟨by decide +kernel, by decide +kernel⟩, List.mem_of_getElem? (i := 971) (by decide +kernel), List.mem_of_getElem? (i := 1452) (by decide +kernel), List.mem_of_getElem? (i := 1453) (by decide +kernel)⟩
theorem lw_p75 : lw_okq (⟨"SeatSwapModel", "putsPart", "(II)V"⟩, 18) := ⟨⟨by decide +kernel, by decide +kernel⟩, List.mem_of_getElem? (i := 971) (by decide +kernel), List.mem_of_getElem? (i := 1456) (by decide +kernel), List.mem_of_getElem? (i := 1457) (by decide +kernel)⟩
theorem lw_p76 : lw_okq (⟨"SeatSwapModel", "putsLike", "(II)V"⟩, 18) := ⟨⟨by decide +kernel, by decide +kernel⟩, List.mem_of_getElem? (i := 971) (by decide +kernel), List.mem_of_getElem? (i := 1460) (by decide +kernel), List.mem_of_getElem? (i := 1461) (by decide +kernel)⟩
theorem lw_p77 : lw_okq (⟨"SeatSwapModel", "putsSweets", "(I)V"⟩, 18) := ⟨⟨by decide +kernel, by decide +kernel⟩, List.mem_of_getElem? (i := 971) (by decide +kernel), List.mem_of_getElem? (i := 1464) (by decide +kernel), List.mem_of_getElem? (i := 1465) (by decide +kernel)⟩
def lw_privs_5 : List (MethodName × Nat) := [(⟨"SeatSwapModel", "tablesOfFamily", "(I)I"⟩, 18), (⟨"SeatSwapModel", "joyOfFamily", "(I)I"⟩, 18), (⟨"SeatSwapModel", "layPlan", "()V"⟩, 18), (⟨"SeatSwapModel", "puts", "(I)V"⟩, 18), (⟨"SeatSwapModel", "putsSeat", "(I)V"⟩, 18), (⟨"SeatSwapModel", "writtenAt", "(I)I"⟩, 18), (⟨"SeatSwapModel", "laySetup", "()V"⟩, 18), (⟨"SeatSwapModel", "putsWord", "(I)V"⟩, 18), (⟨"SeatSwapModel", "putsNext", "(I)V"⟩, 18), (⟨"SeatSwapModel", "putsNumber", "(I)V"⟩, 18), (⟨"SeatSwapModel", "putsTraveller", "(I)V"⟩, 18), (⟨"SeatSwapModel", "putsPart", "(II)V"⟩, 18), (⟨"SeatSwapModel", "putsLike", "(II)V"⟩, 18), (⟨"SeatSwapModel", "putsSweets", "(I)V"⟩, 18)]
theorem lw_r5 : ∀ q ∈ lw_privs_5, lw_okq q := List.forall_mem_cons.mpr ⟨lw_p64, List.forall_mem_cons.mpr ⟨lw_p65, List.forall_mem_cons.mpr ⟨lw_p66, List.forall_mem_cons.mpr ⟨lw_p67, List.forall_mem_cons.mpr ⟨lw_p68, List.forall_mem_cons.mpr ⟨lw_p69, List.forall_mem_cons.mpr ⟨lw_p70, List.forall_mem_cons.mpr ⟨lw_p71, List.forall_mem_cons.mpr ⟨lw_p72, List.forall_mem_cons.mpr ⟨lw_p73, List.forall_mem_cons.mpr ⟨lw_p74, List.forall_mem_cons.mpr ⟨lw_p75, List.forall_mem_cons.mpr ⟨lw_p76, List.forall_mem_cons.mpr ⟨lw_p77, fun _ h => absurd h List.not_mem_nil⟩⟩⟩⟩⟩⟩⟩⟩⟩⟩⟩⟩⟩⟩
def lw_privs : List (MethodName × Nat) := lw_privs_1 ++ (lw_privs_2 ++ (lw_privs_3 ++ (lw_privs_4 ++ (lw_privs_5))))
def lw_tbl : List Cond := k2_sels lw_privs ++ tables_1
theorem lw_privs_ok : ∀ q ∈ lw_privs, lw_okq q := by
  show ∀ q ∈ lw_privs_1 ++ (lw_privs_2 ++ (lw_privs_3 ++ (lw_privs_4 ++ (lw_privs_5)))), lw_okq q
  exact List.forall_mem_append.mpr ⟨lw_r1, List.forall_mem_append.mpr ⟨lw_r2, List.forall_mem_append.mpr ⟨lw_r3, List.forall_mem_append.mpr ⟨lw_r4, lw_r5⟩⟩⟩⟩
/-- the streams that the claim lets the run draw from -/
abbrev lw_cs : List Choice := [Jvm.Choice.named "NaN.bits"]
theorem lw_bits : nanBits ∈ lw_cs := by first | decide | exact List.mem_cons_self | simp [lw_cs, nanBits]
-- ===== end of PART A; names, as printed, trimmed =====
def RX0 : String := "SeatSwap$Log"
def TX0 : u_T := fun k => match k with
  | 0 => ("SeatSwap$Log", "parts", "[I", true)
  | 1 => ("SeatSwap$Log", "oldest", "I", false)
  | _ => ("SeatSwap$Log", "size", "I", false)
def tyX0 : Nat → FieldType := fun k => match k with
  | 0 => .array .int
  | 1 => .int
  | _ => .int
abbrev wsX00 : List Cond := u_ws RX0 TX0 3
theorem nmX0 : ∀ a, a < 3 → ∀ b, b < 3 → a ≠ b → (TX0 a).2.1 ≠ (TX0 b).2.1 := by decide +kernel
theorem tyX0_ok : ∀ k, k < 3 → parseFieldDescriptor (TX0 k).2.2.1 = some (tyX0 k) := by decide +kernel
abbrev cX0_init : ByteArray := prog_2_method_1_code
def yX0_init : MethodName := ⟨RX0, "<init>", "()V"⟩
abbrev cX0_clear : ByteArray := prog_2_method_2_code
def yX0_clear : MethodName := ⟨RX0, "clear", "()V"⟩
abbrev cX0_copyFrom : ByteArray := prog_2_method_3_code
def yX0_copyFrom : MethodName := ⟨RX0, "copyFrom", "(LSeatSwap$Log;)V"⟩
abbrev cX0_indexOf : ByteArray := prog_2_method_4_code
def yX0_indexOf : MethodName := ⟨RX0, "indexOf", "(II)I"⟩
abbrev cX0_put : ByteArray := prog_2_method_5_code
def yX0_put : MethodName := ⟨RX0, "put", "(II)V"⟩
abbrev cX0_add : ByteArray := prog_2_method_6_code
def yX0_add : MethodName := ⟨RX0, "add", "(III)V"⟩
abbrev cX0_part : ByteArray := prog_2_method_7_code
def yX0_part : MethodName := ⟨RX0, "part", "(II)I"⟩
def RX1 : String := "SeatSwap$Past"
def TX1 : u_T := fun k => match k with
  | 0 => ("SeatSwap$Past", "trains", "[LSeatSwap$Train;", true)
  | 1 => ("SeatSwap$Past", "oldest", "I", false)
  | _ => ("SeatSwap$Past", "count", "I", false)
def tyX1 : Nat → FieldType := fun k => match k with
  | 0 => .array (.object "SeatSwap$Train")
  | 1 => .int
  | _ => .int
abbrev wsX10 : List Cond := u_ws RX1 TX1 3
theorem nmX1 : ∀ a, a < 3 → ∀ b, b < 3 → a ≠ b → (TX1 a).2.1 ≠ (TX1 b).2.1 := by decide +kernel
theorem tyX1_ok : ∀ k, k < 3 → parseFieldDescriptor (TX1 k).2.2.1 = some (tyX1 k) := by decide +kernel
abbrev cX1_init : ByteArray := prog_3_method_1_code
def yX1_init : MethodName := ⟨RX1, "<init>", "()V"⟩
abbrev cX1_forget : ByteArray := prog_3_method_2_code
def yX1_forget : MethodName := ⟨RX1, "forget", "()V"⟩
abbrev cX1_trainAt : ByteArray := prog_3_method_3_code
def yX1_trainAt : MethodName := ⟨RX1, "trainAt", "(I)LSeatSwap$Train;"⟩
abbrev cX1_remember : ByteArray := prog_3_method_4_code
def yX1_remember : MethodName := ⟨RX1, "remember", "(LSeatSwap$Train;)V"⟩
abbrev cX1_bringBack : ByteArray := prog_3_method_5_code
def yX1_bringBack : MethodName := ⟨RX1, "bringBack", "(LSeatSwap$Train;)V"⟩
def RX2 : String := "SeatSwap$SetupReader"
def TX2 : u_T := fun k => match k with
  | 0 => ("SeatSwap$SetupReader", "tape", "LSeatSwap$Tape;", true)
  | 1 => ("SeatSwap$SetupReader", "who", "LSeatSwap$Traveller;", true)
  | 2 => ("SeatSwap$SetupReader", "start", "I", false)
  | 3 => ("SeatSwap$SetupReader", "end", "I", false)
  | 4 => ("SeatSwap$SetupReader", "kind", "I", false)
  | _ => ("SeatSwap$SetupReader", "wrong", "Z", false)
def tyX2 : Nat → FieldType := fun k => match k with
  | 0 => .object "SeatSwap$Tape"
  | 1 => .object "SeatSwap$Traveller"
  | 2 => .int
  | 3 => .int
  | 4 => .int
  | _ => .boolean
abbrev wsX20 : List Cond := u_ws RX2 TX2 6
theorem nmX2 : ∀ a, a < 6 → ∀ b, b < 6 → a ≠ b → (TX2 a).2.1 ≠ (TX2 b).2.1 := by decide +kernel
theorem tyX2_ok : ∀ k, k < 6 → parseFieldDescriptor (TX2 k).2.2.1 = some (tyX2 k) := by decide +kernel
abbrev cX2_init : ByteArray := prog_4_method_1_code
def yX2_init : MethodName := ⟨RX2, "<init>", "()V"⟩
abbrev cX2_kindOf : ByteArray := prog_4_method_2_code
def yX2_kindOf : MethodName := ⟨RX2, "kindOf", "(I)I"⟩
abbrev cX2_begin : ByteArray := prog_4_method_3_code
def yX2_begin : MethodName := ⟨RX2, "begin", "()V"⟩
abbrev cX2_nextToken : ByteArray := prog_4_method_4_code
def yX2_nextToken : MethodName := ⟨RX2, "nextToken", "()V"⟩
abbrev cX2_isSign : ByteArray := prog_4_method_5_code
def yX2_isSign : MethodName := ⟨RX2, "isSign", "(C)Z"⟩
abbrev cX2_isWord : ByteArray := prog_4_method_6_code
def yX2_isWord : MethodName := ⟨RX2, "isWord", "(Ljava/lang/String;)Z"⟩
abbrev cX2_isKeyword : ByteArray := prog_4_method_7_code
def yX2_isKeyword : MethodName := ⟨RX2, "isKeyword", "()Z"⟩
abbrev cX2_isName : ByteArray := prog_4_method_8_code
def yX2_isName : MethodName := ⟨RX2, "isName", "()Z"⟩
abbrev cX2_packedName : ByteArray := prog_4_method_9_code
def yX2_packedName : MethodName := ⟨RX2, "packedName", "()I"⟩
abbrev cX2_number : ByteArray := prog_4_method_10_code
def yX2_number : MethodName := ⟨RX2, "number", "()I"⟩
abbrev cX2_pass : ByteArray := prog_4_method_11_code
def yX2_pass : MethodName := ⟨RX2, "pass", "(Z)V"⟩
abbrev cX2_take : ByteArray := prog_4_method_12_code
def yX2_take : MethodName := ⟨RX2, "take", "(Ljava/lang/String;)V"⟩
abbrev cX2_takeIfThere : ByteArray := prog_4_method_13_code
def yX2_takeIfThere : MethodName := ⟨RX2, "takeIfThere", "(Ljava/lang/String;)Z"⟩
abbrev cX2_takeInt : ByteArray := prog_4_method_14_code
def yX2_takeInt : MethodName := ⟨RX2, "takeInt", "(II)I"⟩
abbrev cX2_takeLike : ByteArray := prog_4_method_15_code
def yX2_takeLike : MethodName := ⟨RX2, "takeLike", "()I"⟩
abbrev cX2_takeFreeSeat : ByteArray := prog_4_method_16_code
def yX2_takeFreeSeat : MethodName := ⟨RX2, "takeFreeSeat", "(LSeatSwap$Train;)I"⟩
abbrev cX2_takeName : ByteArray := prog_4_method_17_code
def yX2_takeName : MethodName := ⟨RX2, "takeName", "()I"⟩
abbrev cX2_tapeIsName : ByteArray := prog_4_method_18_code
def yX2_tapeIsName : MethodName := ⟨RX2, "tapeIsName", "()Z"⟩
abbrev cX2_nameOnTape : ByteArray := prog_4_method_19_code
def yX2_nameOnTape : MethodName := ⟨RX2, "nameOnTape", "()I"⟩
abbrev cX2_readSetup : ByteArray := prog_4_method_20_code
def yX2_readSetup : MethodName := ⟨RX2, "readSetup", "(LSeatSwap$Train;)Z"⟩
abbrev cX2_readTraveller : ByteArray := prog_4_method_21_code
def yX2_readTraveller : MethodName := ⟨RX2, "readTraveller", "(LSeatSwap$Train;)V"⟩
def RX3 : String := "SeatSwap$SetupWriter"
def TX3 : u_T := fun k => match k with
  | 0 => ("SeatSwap$SetupWriter", "length", "I", false)
  | 1 => ("SeatSwap$SetupWriter", "wanted", "I", false)
  | _ => ("SeatSwap$SetupWriter", "found", "I", false)
def tyX3 : Nat → FieldType := fun k => match k with
  | 0 => .int
  | 1 => .int
  | _ => .int
abbrev wsX30 : List Cond := u_ws RX3 TX3 3
theorem nmX3 : ∀ a, a < 3 → ∀ b, b < 3 → a ≠ b → (TX3 a).2.1 ≠ (TX3 b).2.1 := by decide +kernel
theorem tyX3_ok : ∀ k, k < 3 → parseFieldDescriptor (TX3 k).2.2.1 = some (tyX3 k) := by decide +kernel
abbrev cX3_init : ByteArray := prog_5_method_1_code
def yX3_init : MethodName := ⟨RX3, "<init>", "()V"⟩
abbrev cX3_write : ByteArray := prog_5_method_2_code
def yX3_write : MethodName := ⟨RX3, "write", "(LSeatSwap$Train;I)V"⟩
abbrev cX3_putTraveller : ByteArray := prog_5_method_3_code
def yX3_putTraveller : MethodName := ⟨RX3, "putTraveller", "(LSeatSwap$Traveller;)V"⟩
abbrev cX3_putPart : ByteArray := prog_5_method_4_code
def yX3_putPart : MethodName := ⟨RX3, "putPart", "(Ljava/lang/String;II)V"⟩
abbrev cX3_putLike : ByteArray := prog_5_method_5_code
def yX3_putLike : MethodName := ⟨RX3, "putLike", "(Ljava/lang/String;I)V"⟩
abbrev cX3_putNumber : ByteArray := prog_5_method_6_code
def yX3_putNumber : MethodName := ⟨RX3, "putNumber", "(I)V"⟩
abbrev cX3_putText : ByteArray := prog_5_method_7_code
def yX3_putText : MethodName := ⟨RX3, "putText", "(Ljava/lang/String;)V"⟩
abbrev cX3_put : ByteArray := prog_5_method_8_code
def yX3_put : MethodName := ⟨RX3, "put", "(I)V"⟩
def RX4 : String := "SeatSwap$Tape"
def TX4 : u_T := fun k => match k with
  | 0 => ("SeatSwap$Tape", "bytes", "[I", true)
  | _ => ("SeatSwap$Tape", "length", "I", false)
def tyX4 : Nat → FieldType := fun k => match k with
  | 0 => .array .int
  | _ => .int
abbrev wsX40 : List Cond := u_ws RX4 TX4 2
theorem nmX4 : ∀ a, a < 2 → ∀ b, b < 2 → a ≠ b → (TX4 a).2.1 ≠ (TX4 b).2.1 := by decide +kernel
theorem tyX4_ok : ∀ k, k < 2 → parseFieldDescriptor (TX4 k).2.2.1 = some (tyX4 k) := by decide +kernel
abbrev cX4_init : ByteArray := prog_6_method_1_code
def yX4_init : MethodName := ⟨RX4, "<init>", "()V"⟩
abbrev cX4_hasRoom : ByteArray := prog_6_method_2_code
def yX4_hasRoom : MethodName := ⟨RX4, "hasRoom", "()Z"⟩
abbrev cX4_putFour : ByteArray := prog_6_method_3_code
def yX4_putFour : MethodName := ⟨RX4, "putFour", "(I)V"⟩
abbrev cX4_put : ByteArray := prog_6_method_4_code
def yX4_put : MethodName := ⟨RX4, "put", "(I)V"⟩
abbrev cX4_byteAt : ByteArray := prog_6_method_5_code
def yX4_byteAt : MethodName := ⟨RX4, "byteAt", "(I)I"⟩
def RX5 : String := "SeatSwap$Train"
def TX5 : u_T := fun k => match k with
  | 0 => ("SeatSwap$Train", "travellers", "[LSeatSwap$Traveller;", true)
  | 1 => ("SeatSwap$Train", "nobody", "LSeatSwap$Traveller;", true)
  | 2 => ("SeatSwap$Train", "members", "[I", true)
  | 3 => ("SeatSwap$Train", "log", "LSeatSwap$Log;", true)
  | 4 => ("SeatSwap$Train", "rows", "I", false)
  | 5 => ("SeatSwap$Train", "first", "I", false)
  | 6 => ("SeatSwap$Train", "time", "I", false)
  | 7 => ("SeatSwap$Train", "count", "I", false)
  | 8 => ("SeatSwap$Train", "swaps", "I", false)
  | 9 => ("SeatSwap$Train", "moves", "I", false)
  | 10 => ("SeatSwap$Train", "rings", "I", false)
  | 11 => ("SeatSwap$Train", "paid", "I", false)
  | _ => ("SeatSwap$Train", "gone", "I", false)
def tyX5 : Nat → FieldType := fun k => match k with
  | 0 => .array (.object "SeatSwap$Traveller")
  | 1 => .object "SeatSwap$Traveller"
  | 2 => .array .int
  | 3 => .object "SeatSwap$Log"
  | 4 => .int
  | 5 => .int
  | 6 => .int
  | 7 => .int
  | 8 => .int
  | 9 => .int
  | 10 => .int
  | 11 => .int
  | _ => .int
abbrev wsX50 : List Cond := u_ws RX5 TX5 13
theorem nmX5 : ∀ a, a < 13 → ∀ b, b < 13 → a ≠ b → (TX5 a).2.1 ≠ (TX5 b).2.1 := by decide +kernel
theorem tyX5_ok : ∀ k, k < 13 → parseFieldDescriptor (TX5 k).2.2.1 = some (tyX5 k) := by decide +kernel
abbrev cX5_init : ByteArray := prog_7_method_1_code
def yX5_init : MethodName := ⟨RX5, "<init>", "()V"⟩
abbrev cX5_clear : ByteArray := prog_7_method_2_code
def yX5_clear : MethodName := ⟨RX5, "clear", "()V"⟩
abbrev cX5_copyFrom : ByteArray := prog_7_method_3_code
def yX5_copyFrom : MethodName := ⟨RX5, "copyFrom", "(LSeatSwap$Train;)V"⟩
abbrev cX5_traveller : ByteArray := prog_7_method_4_code
def yX5_traveller : MethodName := ⟨RX5, "traveller", "(I)LSeatSwap$Traveller;"⟩
abbrev cX5_seats : ByteArray := prog_7_method_5_code
def yX5_seats : MethodName := ⟨RX5, "seats", "()I"⟩
abbrev cX5_tables : ByteArray := prog_7_method_6_code
def yX5_tables : MethodName := ⟨RX5, "tables", "()I"⟩
abbrev cX5_isSeat : ByteArray := prog_7_method_7_code
def yX5_isSeat : MethodName := ⟨RX5, "isSeat", "(I)Z"⟩
abbrev cX5_isTraveller : ByteArray := prog_7_method_8_code
def yX5_isTraveller : MethodName := ⟨RX5, "isTraveller", "(I)Z"⟩
abbrev cX5_isInRange : ByteArray := prog_7_method_9_code
def yX5_isInRange : MethodName := ⟨RX5, "isInRange", "(II)Z"⟩
abbrev cX5_whoHas : ByteArray := prog_7_method_10_code
def yX5_whoHas : MethodName := ⟨RX5, "whoHas", "(I)I"⟩
abbrev cX5_isFree : ByteArray := prog_7_method_11_code
def yX5_isFree : MethodName := ⟨RX5, "isFree", "(I)Z"⟩
abbrev cX5_allows : ByteArray := prog_7_method_12_code
def yX5_allows : MethodName := ⟨RX5, "allows", "(II)Z"⟩
abbrev cX5_maySit : ByteArray := prog_7_method_13_code
def yX5_maySit : MethodName := ⟨RX5, "maySit", "(II)Z"⟩
abbrev cX5_barredBy : ByteArray := prog_7_method_14_code
def yX5_barredBy : MethodName := ⟨RX5, "barredBy", "(I)I"⟩
abbrev cX5_membersAt : ByteArray := prog_7_method_15_code
def yX5_membersAt : MethodName := ⟨RX5, "membersAt", "(II)I"⟩
abbrev cX5_countAtTable : ByteArray := prog_7_method_16_code
def yX5_countAtTable : MethodName := ⟨RX5, "countAtTable", "(LSeatSwap$Traveller;I)V"⟩
abbrev cX5_admit : ByteArray := prog_7_method_17_code
/-- the name that stands at this place of the Statement's own table -/
def yX5_admit : MethodName := match tables_1_3[7]? with
  | some (Jvm.Cond.instanceMethod y) => y
  | _ => ⟨RX5, "", ""⟩
abbrev cX5_letOff : ByteArray := prog_7_method_18_code
def yX5_letOff : MethodName := ⟨RX5, "letOff", "(I)V"⟩
abbrev cX5_goOn : ByteArray := prog_7_method_19_code
def yX5_goOn : MethodName := ⟨RX5, "goOn", "()V"⟩
abbrev cX5_joyIn : ByteArray := prog_7_method_20_code
def yX5_joyIn : MethodName := ⟨RX5, "joyIn", "(II)I"⟩
abbrev cX5_joyOf : ByteArray := prog_7_method_21_code
def yX5_joyOf : MethodName := ⟨RX5, "joyOf", "(I)I"⟩
abbrev cX5_relativesAt : ByteArray := prog_7_method_22_code
def yX5_relativesAt : MethodName := ⟨RX5, "relativesAt", "(LSeatSwap$Traveller;I)I"⟩
abbrev cX5_looksForward : ByteArray := prog_7_method_23_code
def yX5_looksForward : MethodName := ⟨RX5, "looksForward", "(I)Z"⟩
abbrev cX5_sumOfJoys : ByteArray := prog_7_method_24_code
def yX5_sumOfJoys : MethodName := ⟨RX5, "sumOfJoys", "()I"⟩
abbrev cX5_grumblers : ByteArray := prog_7_method_25_code
def yX5_grumblers : MethodName := ⟨RX5, "grumblers", "()I"⟩
abbrev cX5_placeOf : ByteArray := prog_7_method_26_code
def yX5_placeOf : MethodName := ⟨RX5, "placeOf", "(I)I"⟩
abbrev cX5_whoIsAtPlace : ByteArray := prog_7_method_27_code
def yX5_whoIsAtPlace : MethodName := ⟨RX5, "whoIsAtPlace", "(I)I"⟩
abbrev cX5_isAt : ByteArray := prog_7_method_28_code
def yX5_isAt : MethodName := ⟨RX5, "isAt", "(II)Z"⟩
abbrev cX5_travellersAt : ByteArray := prog_7_method_29_code
def yX5_travellersAt : MethodName := ⟨RX5, "travellersAt", "(I)I"⟩
abbrev cX5_grumblersAt : ByteArray := prog_7_method_30_code
def yX5_grumblersAt : MethodName := ⟨RX5, "grumblersAt", "(I)I"⟩
abbrev cX5_sumOfJoysAt : ByteArray := prog_7_method_31_code
def yX5_sumOfJoysAt : MethodName := ⟨RX5, "sumOfJoysAt", "(I)I"⟩
abbrev cX5_greatestFamilyAt : ByteArray := prog_7_method_32_code
def yX5_greatestFamilyAt : MethodName := ⟨RX5, "greatestFamilyAt", "(I)I"⟩
abbrev cX5_membersOf : ByteArray := prog_7_method_33_code
def yX5_membersOf : MethodName := ⟨RX5, "membersOf", "(I)I"⟩
abbrev cX5_tablesOf : ByteArray := prog_7_method_34_code
def yX5_tablesOf : MethodName := ⟨RX5, "tablesOf", "(I)I"⟩
abbrev cX5_sumOfJoysOf : ByteArray := prog_7_method_35_code
def yX5_sumOfJoysOf : MethodName := ⟨RX5, "sumOfJoysOf", "(I)I"⟩
abbrev cX5_families : ByteArray := prog_7_method_36_code
def yX5_families : MethodName := ⟨RX5, "families", "()I"⟩
abbrev cX5_sumOfSweets : ByteArray := prog_7_method_37_code
def yX5_sumOfSweets : MethodName := ⟨RX5, "sumOfSweets", "()I"⟩
abbrev cX5_sitDown : ByteArray := prog_7_method_38_code
def yX5_sitDown : MethodName := ⟨RX5, "sitDown", "(II)V"⟩
abbrev cX5_exchangeSeats : ByteArray := prog_7_method_39_code
def yX5_exchangeSeats : MethodName := ⟨RX5, "exchangeSeats", "(II)V"⟩
abbrev cX5_passSeats : ByteArray := prog_7_method_40_code
def yX5_passSeats : MethodName := ⟨RX5, "passSeats", "(III)V"⟩
abbrev cX5_riseBySwap : ByteArray := prog_7_method_41_code
def yX5_riseBySwap : MethodName := ⟨RX5, "riseBySwap", "(II)I"⟩
abbrev cX5_sumIfSwapped : ByteArray := prog_7_method_42_code
def yX5_sumIfSwapped : MethodName := ⟨RX5, "sumIfSwapped", "(II)I"⟩
abbrev cX5_swapReason : ByteArray := prog_7_method_43_code
def yX5_swapReason : MethodName := ⟨RX5, "swapReason", "(III)I"⟩
abbrev cX5_doSwap : ByteArray := prog_7_method_44_code
def yX5_doSwap : MethodName := ⟨RX5, "doSwap", "(III)V"⟩
abbrev cX5_moveReason : ByteArray := prog_7_method_45_code
def yX5_moveReason : MethodName := ⟨RX5, "moveReason", "(II)I"⟩
abbrev cX5_doMove : ByteArray := prog_7_method_46_code
def yX5_doMove : MethodName := ⟨RX5, "doMove", "(II)V"⟩
abbrev cX5_ringReason : ByteArray := prog_7_method_47_code
def yX5_ringReason : MethodName := ⟨RX5, "ringReason", "(III)I"⟩
abbrev cX5_riseByRing : ByteArray := prog_7_method_48_code
def yX5_riseByRing : MethodName := ⟨RX5, "riseByRing", "(III)I"⟩
abbrev cX5_doRing : ByteArray := prog_7_method_49_code
def yX5_doRing : MethodName := ⟨RX5, "doRing", "(III)V"⟩
abbrev cX5_risingRings : ByteArray := prog_7_method_50_code
def yX5_risingRings : MethodName := ⟨RX5, "risingRings", "()I"⟩
abbrev cX5_bestSeatFor : ByteArray := prog_7_method_51_code
def yX5_bestSeatFor : MethodName := ⟨RX5, "bestSeatFor", "(I)I"⟩
abbrev cX5_partnerFor : ByteArray := prog_7_method_52_code
def yX5_partnerFor : MethodName := ⟨RX5, "partnerFor", "(I)I"⟩
abbrev cX5_settleOnce : ByteArray := prog_7_method_53_code
def yX5_settleOnce : MethodName := ⟨RX5, "settleOnce", "()Z"⟩
abbrev cX5_planSign : ByteArray := prog_7_method_54_code
def yX5_planSign : MethodName := ⟨RX5, "planSign", "(II)I"⟩
abbrev cX5_seatSign : ByteArray := prog_7_method_55_code
def yX5_seatSign : MethodName := ⟨RX5, "seatSign", "(I)I"⟩
def RX6 : String := "SeatSwap$Traveller"
def TX6 : u_T := fun k => match k with
  | 0 => ("SeatSwap$Traveller", "name", "I", false)
  | 1 => ("SeatSwap$Traveller", "seat", "I", false)
  | 2 => ("SeatSwap$Traveller", "ticket", "I", false)
  | 3 => ("SeatSwap$Traveller", "family", "I", false)
  | 4 => ("SeatSwap$Traveller", "window", "I", false)
  | 5 => ("SeatSwap$Traveller", "ahead", "I", false)
  | 6 => ("SeatSwap$Traveller", "row", "I", false)
  | 7 => ("SeatSwap$Traveller", "pulls", "I", false)
  | 8 => ("SeatSwap$Traveller", "sweets", "I", false)
  | _ => ("SeatSwap$Traveller", "stop", "I", false)
def tyX6 : Nat → FieldType := fun k => match k with
  | 0 => .int
  | 1 => .int
  | 2 => .int
  | 3 => .int
  | 4 => .int
  | 5 => .int
  | 6 => .int
  | 7 => .int
  | 8 => .int
  | _ => .int
abbrev wsX60 : List Cond := u_ws RX6 TX6 10
theorem nmX6 : ∀ a, a < 10 → ∀ b, b < 10 → a ≠ b → (TX6 a).2.1 ≠ (TX6 b).2.1 := by decide +kernel
theorem tyX6_ok : ∀ k, k < 10 → parseFieldDescriptor (TX6 k).2.2.1 = some (tyX6 k) := by decide +kernel
abbrev cX6_init : ByteArray := prog_8_method_1_code
def yX6_init : MethodName := ⟨RX6, "<init>", "()V"⟩
abbrev cX6_clear : ByteArray := prog_8_method_2_code
def yX6_clear : MethodName := ⟨RX6, "clear", "()V"⟩
abbrev cX6_copyFrom : ByteArray := prog_8_method_3_code
def yX6_copyFrom : MethodName := ⟨RX6, "copyFrom", "(LSeatSwap$Traveller;)V"⟩
abbrev cX6_settable : ByteArray := prog_8_method_4_code
def yX6_settable : MethodName := ⟨RX6, "settable", "(I)I"⟩
abbrev cX6_change : ByteArray := prog_8_method_5_code
def yX6_change : MethodName := ⟨RX6, "change", "(II)V"⟩
abbrev cX6_letterAt : ByteArray := prog_8_method_6_code
def yX6_letterAt : MethodName := ⟨RX6, "letterAt", "(I)I"⟩
def RX7 : String := "SeatSwap"
def TX7 : u_T := fun k => match k with
  | 0 => ("SeatSwap", "tape", "LSeatSwap$Tape;", true)
  | 1 => ("SeatSwap", "reader", "LSeatSwap$SetupReader;", true)
  | 2 => ("SeatSwap", "writer", "LSeatSwap$SetupWriter;", true)
  | 3 => ("SeatSwap", "train", "LSeatSwap$Train;", true)
  | 4 => ("SeatSwap", "draft", "LSeatSwap$Train;", true)
  | 5 => ("SeatSwap", "guest", "LSeatSwap$Traveller;", true)
  | 6 => ("SeatSwap", "slots", "[LSeatSwap$Train;", true)
  | 7 => ("SeatSwap", "filled", "[Z", true)
  | 8 => ("SeatSwap", "past", "LSeatSwap$Past;", true)
  | _ => ("SeatSwap", "errorAt", "I", false)
def tyX7 : Nat → FieldType := fun k => match k with
  | 0 => .object "SeatSwap$Tape"
  | 1 => .object "SeatSwap$SetupReader"
  | 2 => .object "SeatSwap$SetupWriter"
  | 3 => .object "SeatSwap$Train"
  | 4 => .object "SeatSwap$Train"
  | 5 => .object "SeatSwap$Traveller"
  | 6 => .array (.object "SeatSwap$Train")
  | 7 => .array .boolean
  | 8 => .object "SeatSwap$Past"
  | _ => .int
abbrev wsX70 : List Cond := u_ws RX7 TX7 10
theorem nmX7 : ∀ a, a < 10 → ∀ b, b < 10 → a ≠ b → (TX7 a).2.1 ≠ (TX7 b).2.1 := by decide +kernel
theorem tyX7_ok : ∀ k, k < 10 → parseFieldDescriptor (TX7 k).2.2.1 = some (tyX7 k) := by decide +kernel
abbrev cX7_init : ByteArray := prog_1_method_1_code
def yX7_init : MethodName := ⟨RX7, "<init>", "()V"⟩
abbrev cX7_append : ByteArray := prog_1_method_2_code
def yX7_append : MethodName := ⟨RX7, "append", "(IIIII)I"⟩
abbrev cX7_truncate : ByteArray := prog_1_method_3_code
def yX7_truncate : MethodName := ⟨RX7, "truncate", "(I)I"⟩
abbrev cX7_load : ByteArray := prog_1_method_4_code
def yX7_load : MethodName := ⟨RX7, "load", "()I"⟩
abbrev cX7_errorPosition : ByteArray := prog_1_method_5_code
def yX7_errorPosition : MethodName := ⟨RX7, "errorPosition", "()I"⟩
abbrev cX7_come : ByteArray := prog_1_method_6_code
def yX7_come : MethodName := ⟨RX7, "come", "(IIIII)I"⟩
abbrev cX7_set : ByteArray := prog_1_method_7_code
def yX7_set : MethodName := ⟨RX7, "set", "(III)I"⟩
abbrev cX7_first : ByteArray := prog_1_method_8_code
def yX7_first : MethodName := ⟨RX7, "first", "(I)I"⟩
abbrev cX7_swap : ByteArray := prog_1_method_9_code
def yX7_swap : MethodName := ⟨RX7, "swap", "(III)I"⟩
abbrev cX7_move : ByteArray := prog_1_method_10_code
def yX7_move : MethodName := ⟨RX7, "move", "(II)I"⟩
abbrev cX7_ring : ByteArray := prog_1_method_11_code
def yX7_ring : MethodName := ⟨RX7, "ring", "(III)I"⟩
abbrev cX7_settle : ByteArray := prog_1_method_12_code
def yX7_settle : MethodName := ⟨RX7, "settle", "()I"⟩
abbrev cX7_station : ByteArray := prog_1_method_13_code
def yX7_station : MethodName := ⟨RX7, "station", "(I)I"⟩
abbrev cX7_keep : ByteArray := prog_1_method_14_code
def yX7_keep : MethodName := ⟨RX7, "keep", "(I)I"⟩
abbrev cX7_restore : ByteArray := prog_1_method_15_code
def yX7_restore : MethodName := ⟨RX7, "restore", "(I)I"⟩
abbrev cX7_undo : ByteArray := prog_1_method_16_code
def yX7_undo : MethodName := ⟨RX7, "undo", "()I"⟩
abbrev cX7_value : ByteArray := prog_1_method_17_code
def yX7_value : MethodName := ⟨RX7, "value", "(I)I"⟩
abbrev cX7_of : ByteArray := prog_1_method_18_code
def yX7_of : MethodName := ⟨RX7, "of", "(II)I"⟩
abbrev cX7_letter : ByteArray := prog_1_method_19_code
def yX7_letter : MethodName := ⟨RX7, "letter", "(II)I"⟩
abbrev cX7_at : ByteArray := prog_1_method_20_code
def yX7_at : MethodName := ⟨RX7, "at", "(I)I"⟩
abbrev cX7_table : ByteArray := prog_1_method_21_code
def yX7_table : MethodName := ⟨RX7, "table", "(II)I"⟩
abbrev cX7_family : ByteArray := prog_1_method_22_code
def yX7_family : MethodName := ⟨RX7, "family", "(II)I"⟩
abbrev cX7_ranked : ByteArray := prog_1_method_23_code
def yX7_ranked : MethodName := ⟨RX7, "ranked", "(I)I"⟩
abbrev cX7_why : ByteArray := prog_1_method_24_code
def yX7_why : MethodName := ⟨RX7, "why", "(III)I"⟩
abbrev cX7_whyMove : ByteArray := prog_1_method_25_code
def yX7_whyMove : MethodName := ⟨RX7, "whyMove", "(II)I"⟩
abbrev cX7_joyAt : ByteArray := prog_1_method_26_code
def yX7_joyAt : MethodName := ⟨RX7, "joyAt", "(II)I"⟩
abbrev cX7_ifSwapped : ByteArray := prog_1_method_27_code
def yX7_ifSwapped : MethodName := ⟨RX7, "ifSwapped", "(III)I"⟩
abbrev cX7_leastPrice : ByteArray := prog_1_method_28_code
def yX7_leastPrice : MethodName := ⟨RX7, "leastPrice", "(II)I"⟩
abbrev cX7_bestSeat : ByteArray := prog_1_method_29_code
def yX7_bestSeat : MethodName := ⟨RX7, "bestSeat", "(I)I"⟩
abbrev cX7_partner : ByteArray := prog_1_method_30_code
def yX7_partner : MethodName := ⟨RX7, "partner", "(I)I"⟩
abbrev cX7_rings : ByteArray := prog_1_method_31_code
def yX7_rings : MethodName := ⟨RX7, "rings", "()I"⟩
abbrev cX7_ifSettled : ByteArray := prog_1_method_32_code
def yX7_ifSettled : MethodName := ⟨RX7, "ifSettled", "(I)I"⟩
abbrev cX7_ifFirst : ByteArray := prog_1_method_33_code
def yX7_ifFirst : MethodName := ⟨RX7, "ifFirst", "(I)I"⟩
abbrev cX7_log : ByteArray := prog_1_method_34_code
def yX7_log : MethodName := ⟨RX7, "log", "(II)I"⟩
abbrev cX7_full : ByteArray := prog_1_method_35_code
def yX7_full : MethodName := ⟨RX7, "full", "()F"⟩
abbrev cX7_meanJoy : ByteArray := prog_1_method_36_code
def yX7_meanJoy : MethodName := ⟨RX7, "meanJoy", "()D"⟩
abbrev cX7_planLength : ByteArray := prog_1_method_37_code
def yX7_planLength : MethodName := ⟨RX7, "planLength", "()I"⟩
abbrev cX7_planByte : ByteArray := prog_1_method_38_code
def yX7_planByte : MethodName := ⟨RX7, "planByte", "(I)I"⟩
abbrev cX7_setupLength : ByteArray := prog_1_method_39_code
def yX7_setupLength : MethodName := ⟨RX7, "setupLength", "()I"⟩
abbrev cX7_setupByte : ByteArray := prog_1_method_40_code
def yX7_setupByte : MethodName := ⟨RX7, "setupByte", "(I)I"⟩
abbrev cX7_isIn : ByteArray := prog_1_method_41_code
def yX7_isIn : MethodName := ⟨RX7, "isIn", "(III)Z"⟩
abbrev cX7_refusal : ByteArray := prog_1_method_42_code
def yX7_refusal : MethodName := ⟨RX7, "refusal", "(I)I"⟩
abbrev cX7_arePair : ByteArray := prog_1_method_43_code
def yX7_arePair : MethodName := ⟨RX7, "arePair", "(II)Z"⟩
abbrev cX7_settleDraft : ByteArray := prog_1_method_44_code
def yX7_settleDraft : MethodName := ⟨RX7, "settleDraft", "()I"⟩
def RX8 : String := "SeatSwapModel"
def TX8 : u_T := fun k => match k with
  | 0 => ("SeatSwapModel", "now", "[I", true)
  | 1 => ("SeatSwapModel", "draft", "[I", true)
  | 2 => ("SeatSwapModel", "spare", "[I", true)
  | 3 => ("SeatSwapModel", "earlier", "[I", true)
  | 4 => ("SeatSwapModel", "slots", "[I", true)
  | 5 => ("SeatSwapModel", "isKept", "[Z", true)
  | 6 => ("SeatSwapModel", "undos", "I", false)
  | 7 => ("SeatSwapModel", "tape", "[I", true)
  | 8 => ("SeatSwapModel", "length", "I", false)
  | 9 => ("SeatSwapModel", "error", "I", false)
  | 10 => ("SeatSwapModel", "thrown", "I", false)
  | 11 => ("SeatSwapModel", "place", "I", false)
  | 12 => ("SeatSwapModel", "begin", "I", false)
  | 13 => ("SeatSwapModel", "kind", "I", false)
  | 14 => ("SeatSwapModel", "value", "I", false)
  | 15 => ("SeatSwapModel", "fails", "Z", false)
  | 16 => ("SeatSwapModel", "out", "[I", true)
  | _ => ("SeatSwapModel", "written", "I", false)
def tyX8 : Nat → FieldType := fun k => match k with
  | 0 => .array .int
  | 1 => .array .int
  | 2 => .array .int
  | 3 => .array .int
  | 4 => .array .int
  | 5 => .array .boolean
  | 6 => .int
  | 7 => .array .int
  | 8 => .int
  | 9 => .int
  | 10 => .int
  | 11 => .int
  | 12 => .int
  | 13 => .int
  | 14 => .int
  | 15 => .boolean
  | 16 => .array .int
  | _ => .int
abbrev wsX80 : List Cond := u_ws RX8 TX8 18
theorem nmX8 : ∀ a, a < 18 → ∀ b, b < 18 → a ≠ b → (TX8 a).2.1 ≠ (TX8 b).2.1 := by decide +kernel
theorem tyX8_ok : ∀ k, k < 18 → parseFieldDescriptor (TX8 k).2.2.1 = some (tyX8 k) := by decide +kernel
abbrev cX8_init : ByteArray := prog_10_method_1_code
def yX8_init : MethodName := ⟨RX8, "<init>", "()V"⟩
abbrev cX8_in : ByteArray := prog_10_method_3_code
def yX8_in : MethodName := ⟨RX8, "in", "(III)Z"⟩
abbrev cX8_layRow : ByteArray := prog_10_method_4_code
def yX8_layRow : MethodName := ⟨RX8, "layRow", "([II[II)V"⟩
abbrev cX8_takesSpare : ByteArray := prog_10_method_5_code
def yX8_takesSpare : MethodName := ⟨RX8, "takesSpare", "()V"⟩
abbrev cX8_numberAt : ByteArray := prog_10_method_6_code
def yX8_numberAt : MethodName := ⟨RX8, "numberAt", "(II)I"⟩
abbrev cX8_isTraveller : ByteArray := prog_10_method_7_code
def yX8_isTraveller : MethodName := ⟨RX8, "isTraveller", "(I)Z"⟩
abbrev cX8_isSeat : ByteArray := prog_10_method_8_code
def yX8_isSeat : MethodName := ⟨RX8, "isSeat", "(I)Z"⟩
abbrev cX8_isPair : ByteArray := prog_10_method_9_code
def yX8_isPair : MethodName := ⟨RX8, "isPair", "(II)Z"⟩
abbrev cX8_isPaid : ByteArray := prog_10_method_10_code
def yX8_isPaid : MethodName := ⟨RX8, "isPaid", "(I)Z"⟩
abbrev cX8_rowOf : ByteArray := prog_10_method_11_code
def yX8_rowOf : MethodName := ⟨RX8, "rowOf", "(I)I"⟩
abbrev cX8_tableOf : ByteArray := prog_10_method_12_code
def yX8_tableOf : MethodName := ⟨RX8, "tableOf", "(I)I"⟩
abbrev cX8_isWindow : ByteArray := prog_10_method_13_code
def yX8_isWindow : MethodName := ⟨RX8, "isWindow", "(I)Z"⟩
abbrev cX8_isForward : ByteArray := prog_10_method_14_code
def yX8_isForward : MethodName := ⟨RX8, "isForward", "(I)Z"⟩
abbrev cX8_tablesOf : ByteArray := prog_10_method_15_code
def yX8_tablesOf : MethodName := ⟨RX8, "tablesOf", "([I)I"⟩
abbrev cX8_whoHas : ByteArray := prog_10_method_16_code
def yX8_whoHas : MethodName := ⟨RX8, "whoHas", "([II)I"⟩
abbrev cX8_mayUse : ByteArray := prog_10_method_17_code
def yX8_mayUse : MethodName := ⟨RX8, "mayUse", "(III)Z"⟩
abbrev cX8_maySit : ByteArray := prog_10_method_18_code
def yX8_maySit : MethodName := ⟨RX8, "maySit", "([III)Z"⟩
abbrev cX8_kinAt : ByteArray := prog_10_method_19_code
def yX8_kinAt : MethodName := ⟨RX8, "kinAt", "([III)I"⟩
abbrev cX8_joyIn : ByteArray := prog_10_method_20_code
def yX8_joyIn : MethodName := ⟨RX8, "joyIn", "([III)I"⟩
abbrev cX8_joyOf : ByteArray := prog_10_method_21_code
def yX8_joyOf : MethodName := ⟨RX8, "joyOf", "([II)I"⟩
abbrev cX8_joyAll : ByteArray := prog_10_method_22_code
def yX8_joyAll : MethodName := ⟨RX8, "joyAll", "([I)I"⟩
abbrev cX8_grumblers : ByteArray := prog_10_method_23_code
def yX8_grumblers : MethodName := ⟨RX8, "grumblers", "([I)I"⟩
abbrev cX8_exchanges : ByteArray := prog_10_method_24_code
def yX8_exchanges : MethodName := ⟨RX8, "exchanges", "([III)V"⟩
abbrev cX8_turns : ByteArray := prog_10_method_25_code
def yX8_turns : MethodName := ⟨RX8, "turns", "([IIII)V"⟩
abbrev cX8_riseBySwap : ByteArray := prog_10_method_26_code
def yX8_riseBySwap : MethodName := ⟨RX8, "riseBySwap", "([IIII)I"⟩
abbrev cX8_whySwapped : ByteArray := prog_10_method_27_code
def yX8_whySwapped : MethodName := ⟨RX8, "whySwapped", "([IIII)I"⟩
abbrev cX8_whyMoved : ByteArray := prog_10_method_28_code
def yX8_whyMoved : MethodName := ⟨RX8, "whyMoved", "([III)I"⟩
abbrev cX8_riseByRing : ByteArray := prog_10_method_29_code
def yX8_riseByRing : MethodName := ⟨RX8, "riseByRing", "([IIIII)I"⟩
abbrev cX8_whyRing : ByteArray := prog_10_method_30_code
def yX8_whyRing : MethodName := ⟨RX8, "whyRing", "([IIII)I"⟩
abbrev cX8_riseOfRing : ByteArray := prog_10_method_31_code
def yX8_riseOfRing : MethodName := ⟨RX8, "riseOfRing", "([IIII)I"⟩
abbrev cX8_riseOfAll : ByteArray := prog_10_method_32_code
def yX8_riseOfAll : MethodName := ⟨RX8, "riseOfAll", "([III)I"⟩
abbrev cX8_bestSwap : ByteArray := prog_10_method_33_code
def yX8_bestSwap : MethodName := ⟨RX8, "bestSwap", "([I)I"⟩
abbrev cX8_settles : ByteArray := prog_10_method_34_code
def yX8_settles : MethodName := ⟨RX8, "settles", "([I)I"⟩
abbrev cX8_append : ByteArray := prog_10_method_35_code
def yX8_append : MethodName := ⟨RX8, "append", "(IIIII)I"⟩
abbrev cX8_truncate : ByteArray := prog_10_method_36_code
def yX8_truncate : MethodName := ⟨RX8, "truncate", "(I)I"⟩
abbrev cX8_errorPosition : ByteArray := prog_10_method_37_code
def yX8_errorPosition : MethodName := ⟨RX8, "errorPosition", "()I"⟩
abbrev cX8_isSmall : ByteArray := prog_10_method_38_code
def yX8_isSmall : MethodName := ⟨RX8, "isSmall", "(I)Z"⟩
abbrev cX8_isDigit : ByteArray := prog_10_method_39_code
def yX8_isDigit : MethodName := ⟨RX8, "isDigit", "(I)Z"⟩
abbrev cX8_next : ByteArray := prog_10_method_40_code
def yX8_next : MethodName := ⟨RX8, "next", "()V"⟩
abbrev cX8_nextWord : ByteArray := prog_10_method_41_code
def yX8_nextWord : MethodName := ⟨RX8, "nextWord", "()V"⟩
abbrev cX8_nextNumber : ByteArray := prog_10_method_42_code
def yX8_nextNumber : MethodName := ⟨RX8, "nextNumber", "()V"⟩
abbrev cX8_is : ByteArray := prog_10_method_43_code
def yX8_is : MethodName := ⟨RX8, "is", "(I)Z"⟩
abbrev cX8_isKeyword : ByteArray := prog_10_method_44_code
def yX8_isKeyword : MethodName := ⟨RX8, "isKeyword", "(I)Z"⟩
abbrev cX8_takes : ByteArray := prog_10_method_45_code
def yX8_takes : MethodName := ⟨RX8, "takes", "(Z)Z"⟩
abbrev cX8_takesNumber : ByteArray := prog_10_method_46_code
def yX8_takesNumber : MethodName := ⟨RX8, "takesNumber", "(II)I"⟩
abbrev cX8_takesWord : ByteArray := prog_10_method_47_code
def yX8_takesWord : MethodName := ⟨RX8, "takesWord", "(I)Z"⟩
abbrev cX8_takesLike : ByteArray := prog_10_method_48_code
def yX8_takesLike : MethodName := ⟨RX8, "takesLike", "()I"⟩
abbrev cX8_isName : ByteArray := prog_10_method_49_code
def yX8_isName : MethodName := ⟨RX8, "isName", "(I)Z"⟩
abbrev cX8_nameSize : ByteArray := prog_10_method_50_code
def yX8_nameSize : MethodName := ⟨RX8, "nameSize", "(I)I"⟩
abbrev cX8_letterOf : ByteArray := prog_10_method_51_code
def yX8_letterOf : MethodName := ⟨RX8, "letterOf", "(II)I"⟩
abbrev cX8_starts : ByteArray := prog_10_method_52_code
def yX8_starts : MethodName := ⟨RX8, "starts", "([III)V"⟩
abbrev cX8_readSeat : ByteArray := prog_10_method_53_code
def yX8_readSeat : MethodName := ⟨RX8, "readSeat", "()V"⟩
abbrev cX8_load : ByteArray := prog_10_method_54_code
def yX8_load : MethodName := ⟨RX8, "load", "()I"⟩
abbrev cX8_tells : ByteArray := prog_10_method_55_code
def yX8_tells : MethodName := ⟨RX8, "tells", "(III)V"⟩
abbrev cX8_keepForUndo : ByteArray := prog_10_method_56_code
def yX8_keepForUndo : MethodName := ⟨RX8, "keepForUndo", "()V"⟩
abbrev cX8_refused : ByteArray := prog_10_method_57_code
def yX8_refused : MethodName := ⟨RX8, "refused", "(I)I"⟩
abbrev cX8_tapeName : ByteArray := prog_10_method_58_code
def yX8_tapeName : MethodName := ⟨RX8, "tapeName", "()I"⟩
abbrev cX8_come : ByteArray := prog_10_method_59_code
def yX8_come : MethodName := ⟨RX8, "come", "(IIIII)I"⟩
abbrev cX8_fieldOf : ByteArray := prog_10_method_60_code
def yX8_fieldOf : MethodName := ⟨RX8, "fieldOf", "(I)I"⟩
abbrev cX8_isNumber : ByteArray := prog_10_method_61_code
def yX8_isNumber : MethodName := ⟨RX8, "isNumber", "(II)Z"⟩
abbrev cX8_set : ByteArray := prog_10_method_62_code
def yX8_set : MethodName := ⟨RX8, "set", "(III)I"⟩
abbrev cX8_barredBy : ByteArray := prog_10_method_63_code
def yX8_barredBy : MethodName := ⟨RX8, "barredBy", "([II)I"⟩
abbrev cX8_first : ByteArray := prog_10_method_64_code
def yX8_first : MethodName := ⟨RX8, "first", "(I)I"⟩
abbrev cX8_swap : ByteArray := prog_10_method_65_code
def yX8_swap : MethodName := ⟨RX8, "swap", "(III)I"⟩
abbrev cX8_move : ByteArray := prog_10_method_66_code
def yX8_move : MethodName := ⟨RX8, "move", "(II)I"⟩
abbrev cX8_ring : ByteArray := prog_10_method_67_code
def yX8_ring : MethodName := ⟨RX8, "ring", "(III)I"⟩
abbrev cX8_settle : ByteArray := prog_10_method_68_code
def yX8_settle : MethodName := ⟨RX8, "settle", "()I"⟩
abbrev cX8_getsOff : ByteArray := prog_10_method_69_code
def yX8_getsOff : MethodName := ⟨RX8, "getsOff", "(I)V"⟩
abbrev cX8_stops : ByteArray := prog_10_method_70_code
def yX8_stops : MethodName := ⟨RX8, "stops", "()V"⟩
abbrev cX8_station : ByteArray := prog_10_method_71_code
def yX8_station : MethodName := ⟨RX8, "station", "(I)I"⟩
abbrev cX8_keep : ByteArray := prog_10_method_72_code
def yX8_keep : MethodName := ⟨RX8, "keep", "(I)I"⟩
abbrev cX8_restore : ByteArray := prog_10_method_73_code
def yX8_restore : MethodName := ⟨RX8, "restore", "(I)I"⟩
abbrev cX8_undo : ByteArray := prog_10_method_74_code
def yX8_undo : MethodName := ⟨RX8, "undo", "()I"⟩
abbrev cX8_sweetsAll : ByteArray := prog_10_method_75_code
def yX8_sweetsAll : MethodName := ⟨RX8, "sweetsAll", "()I"⟩
abbrev cX8_membersOf : ByteArray := prog_10_method_76_code
def yX8_membersOf : MethodName := ⟨RX8, "membersOf", "(I)I"⟩
abbrev cX8_familiesAll : ByteArray := prog_10_method_77_code
def yX8_familiesAll : MethodName := ⟨RX8, "familiesAll", "()I"⟩
abbrev cX8_value : ByteArray := prog_10_method_78_code
def yX8_value : MethodName := ⟨RX8, "value", "(I)I"⟩
abbrev cX8_rankOf : ByteArray := prog_10_method_79_code
def yX8_rankOf : MethodName := ⟨RX8, "rankOf", "(I)I"⟩
abbrev cX8_of : ByteArray := prog_10_method_80_code
def yX8_of : MethodName := ⟨RX8, "of", "(II)I"⟩
abbrev cX8_letter : ByteArray := prog_10_method_81_code
def yX8_letter : MethodName := ⟨RX8, "letter", "(II)I"⟩
abbrev cX8_at : ByteArray := prog_10_method_82_code
def yX8_at : MethodName := ⟨RX8, "at", "(I)I"⟩
abbrev cX8_isAtTable : ByteArray := prog_10_method_83_code
def yX8_isAtTable : MethodName := ⟨RX8, "isAtTable", "(II)Z"⟩
abbrev cX8_membersAt : ByteArray := prog_10_method_84_code
def yX8_membersAt : MethodName := ⟨RX8, "membersAt", "(II)I"⟩
abbrev cX8_familyAt : ByteArray := prog_10_method_85_code
def yX8_familyAt : MethodName := ⟨RX8, "familyAt", "(I)I"⟩
abbrev cX8_table : ByteArray := prog_10_method_86_code
def yX8_table : MethodName := ⟨RX8, "table", "(II)I"⟩
abbrev cX8_tablesOfFamily : ByteArray := prog_10_method_87_code
def yX8_tablesOfFamily : MethodName := ⟨RX8, "tablesOfFamily", "(I)I"⟩
abbrev cX8_joyOfFamily : ByteArray := prog_10_method_88_code
def yX8_joyOfFamily : MethodName := ⟨RX8, "joyOfFamily", "(I)I"⟩
abbrev cX8_family : ByteArray := prog_10_method_89_code
def yX8_family : MethodName := ⟨RX8, "family", "(II)I"⟩
abbrev cX8_ranked : ByteArray := prog_10_method_90_code
def yX8_ranked : MethodName := ⟨RX8, "ranked", "(I)I"⟩
abbrev cX8_why : ByteArray := prog_10_method_91_code
def yX8_why : MethodName := ⟨RX8, "why", "(III)I"⟩
abbrev cX8_whyMove : ByteArray := prog_10_method_92_code
def yX8_whyMove : MethodName := ⟨RX8, "whyMove", "(II)I"⟩
abbrev cX8_joyAt : ByteArray := prog_10_method_93_code
def yX8_joyAt : MethodName := ⟨RX8, "joyAt", "(II)I"⟩
abbrev cX8_ifSwapped : ByteArray := prog_10_method_94_code
def yX8_ifSwapped : MethodName := ⟨RX8, "ifSwapped", "(III)I"⟩
abbrev cX8_leastPrice : ByteArray := prog_10_method_95_code
def yX8_leastPrice : MethodName := ⟨RX8, "leastPrice", "(II)I"⟩
abbrev cX8_bestSeat : ByteArray := prog_10_method_96_code
def yX8_bestSeat : MethodName := ⟨RX8, "bestSeat", "(I)I"⟩
abbrev cX8_partner : ByteArray := prog_10_method_97_code
def yX8_partner : MethodName := ⟨RX8, "partner", "(I)I"⟩
abbrev cX8_rings : ByteArray := prog_10_method_98_code
def yX8_rings : MethodName := ⟨RX8, "rings", "()I"⟩
abbrev cX8_ifSettled : ByteArray := prog_10_method_99_code
def yX8_ifSettled : MethodName := ⟨RX8, "ifSettled", "(I)I"⟩
abbrev cX8_ifFirst : ByteArray := prog_10_method_100_code
def yX8_ifFirst : MethodName := ⟨RX8, "ifFirst", "(I)I"⟩
abbrev cX8_log : ByteArray := prog_10_method_101_code
def yX8_log : MethodName := ⟨RX8, "log", "(II)I"⟩
abbrev cX8_full : ByteArray := prog_10_method_102_code
def yX8_full : MethodName := ⟨RX8, "full", "()F"⟩
abbrev cX8_meanJoy : ByteArray := prog_10_method_103_code
def yX8_meanJoy : MethodName := ⟨RX8, "meanJoy", "()D"⟩
abbrev cX8_puts : ByteArray := prog_10_method_104_code
def yX8_puts : MethodName := ⟨RX8, "puts", "(I)V"⟩
abbrev cX8_writtenAt : ByteArray := prog_10_method_105_code
def yX8_writtenAt : MethodName := ⟨RX8, "writtenAt", "(I)I"⟩
abbrev cX8_layPlan : ByteArray := prog_10_method_106_code
def yX8_layPlan : MethodName := ⟨RX8, "layPlan", "()V"⟩
abbrev cX8_putsSeat : ByteArray := prog_10_method_107_code
def yX8_putsSeat : MethodName := ⟨RX8, "putsSeat", "(I)V"⟩
abbrev cX8_planLength : ByteArray := prog_10_method_108_code
def yX8_planLength : MethodName := ⟨RX8, "planLength", "()I"⟩
abbrev cX8_planByte : ByteArray := prog_10_method_109_code
def yX8_planByte : MethodName := ⟨RX8, "planByte", "(I)I"⟩
abbrev cX8_putsNumber : ByteArray := prog_10_method_110_code
def yX8_putsNumber : MethodName := ⟨RX8, "putsNumber", "(I)V"⟩
abbrev cX8_putsNext : ByteArray := prog_10_method_111_code
def yX8_putsNext : MethodName := ⟨RX8, "putsNext", "(I)V"⟩
abbrev cX8_putsWord : ByteArray := prog_10_method_112_code
def yX8_putsWord : MethodName := ⟨RX8, "putsWord", "(I)V"⟩
abbrev cX8_putsPart : ByteArray := prog_10_method_113_code
def yX8_putsPart : MethodName := ⟨RX8, "putsPart", "(II)V"⟩
abbrev cX8_putsLike : ByteArray := prog_10_method_114_code
def yX8_putsLike : MethodName := ⟨RX8, "putsLike", "(II)V"⟩
abbrev cX8_putsTraveller : ByteArray := prog_10_method_115_code
def yX8_putsTraveller : MethodName := ⟨RX8, "putsTraveller", "(I)V"⟩
abbrev cX8_putsSweets : ByteArray := prog_10_method_116_code
def yX8_putsSweets : MethodName := ⟨RX8, "putsSweets", "(I)V"⟩
abbrev cX8_laySetup : ByteArray := prog_10_method_117_code
def yX8_laySetup : MethodName := ⟨RX8, "laySetup", "()V"⟩
abbrev cX8_setupLength : ByteArray := prog_10_method_118_code
def yX8_setupLength : MethodName := ⟨RX8, "setupLength", "()I"⟩
abbrev cX8_setupByte : ByteArray := prog_10_method_119_code
def yX8_setupByte : MethodName := ⟨RX8, "setupByte", "(I)I"⟩
def RJ9 : String := "java/lang/Math"
def TJ9 : u_T := fun k => match k with
  | _ => ("", "", "", false)
def tyJ9 : Nat → FieldType := fun k => match k with
  | _ => .int
abbrev wsJ90 : List Cond := u_ws RJ9 TJ9 0
theorem nmJ9 : ∀ a, a < 0 → ∀ b, b < 0 → a ≠ b → (TJ9 a).2.1 ≠ (TJ9 b).2.1 := by decide +kernel
theorem tyJ9_ok : ∀ k, k < 0 → parseFieldDescriptor (TJ9 k).2.2.1 = some (tyJ9 k) := by decide +kernel
abbrev cJ9_floorMod_7cf53 : ByteArray := prog_11_method_50_code
def yJ9_floorMod_7cf53 : MethodName := ⟨RJ9, "floorMod", "(II)I"⟩
abbrev cJ9_abs_0f7a4 : ByteArray := prog_11_method_59_code
def yJ9_abs_0f7a4 : MethodName := ⟨RJ9, "abs", "(I)I"⟩
def RJ0 : String := "java/lang/String"
def TJ0 : u_T := fun k => match k with
  | _ => ("", "", "", false)
def tyJ0 : Nat → FieldType := fun k => match k with
  | _ => .int
abbrev wsJ00 : List Cond := u_ws RJ0 TJ0 0
theorem nmJ0 : ∀ a, a < 0 → ∀ b, b < 0 → a ≠ b → (TJ0 a).2.1 ≠ (TJ0 b).2.1 := by decide +kernel
theorem tyJ0_ok : ∀ k, k < 0 → parseFieldDescriptor (TJ0 k).2.2.1 = some (tyJ0 k) := by decide +kernel
abbrev cJ0_length_8abf5 : ByteArray := prog_12_method_54_code
def yJ0_length_8abf5 : MethodName := ⟨RJ0, "length", "()I"⟩
abbrev cJ0_charAt_5068e : ByteArray := prog_12_method_56_code
def yJ0_charAt_5068e : MethodName := ⟨RJ0, "charAt", "(I)C"⟩
abbrev cJ0_coder_7d493 : ByteArray := prog_12_method_152_code
def yJ0_coder_7d493 : MethodName := ⟨RJ0, "coder", "()B"⟩
abbrev cJ0_isLatin1_aae02 : ByteArray := prog_12_method_154_code
def yJ0_isLatin1_aae02 : MethodName := ⟨RJ0, "isLatin1", "()Z"⟩
abbrev cJ0_checkIndex_df160 : ByteArray := prog_12_method_155_code
def yJ0_checkIndex_df160 : MethodName := ⟨RJ0, "checkIndex", "(II)V"⟩
def RJ1 : String := "java/lang/StringLatin1"
def TJ1 : u_T := fun k => match k with
  | _ => ("", "", "", false)
def tyJ1 : Nat → FieldType := fun k => match k with
  | _ => .int
abbrev wsJ10 : List Cond := u_ws RJ1 TJ1 0
theorem nmJ1 : ∀ a, a < 0 → ∀ b, b < 0 → a ≠ b → (TJ1 a).2.1 ≠ (TJ1 b).2.1 := by decide +kernel
theorem tyJ1_ok : ∀ k, k < 0 → parseFieldDescriptor (TJ1 k).2.2.1 = some (tyJ1 k) := by decide +kernel
abbrev cJ1_charAt_3b067 : ByteArray := prog_13_method_2_code
def yJ1_charAt_3b067 : MethodName := ⟨RJ1, "charAt", "([BI)C"⟩
def RJ2 : String := "java/lang/StringUTF16"
def TJ2 : u_T := fun k => match k with
  | _ => ("", "", "", false)
def tyJ2 : Nat → FieldType := fun k => match k with
  | _ => .int
abbrev wsJ20 : List Cond := u_ws RJ2 TJ2 0
theorem nmJ2 : ∀ a, a < 0 → ∀ b, b < 0 → a ≠ b → (TJ2 a).2.1 ≠ (TJ2 b).2.1 := by decide +kernel
theorem tyJ2_ok : ∀ k, k < 0 → parseFieldDescriptor (TJ2 k).2.2.1 = some (tyJ2 k) := by decide +kernel
abbrev cJ2_getChar_3b067 : ByteArray := prog_14_method_5_code
def yJ2_getChar_3b067 : MethodName := ⟨RJ2, "getChar", "([BI)C"⟩
abbrev cJ2_length_9d52b : ByteArray := prog_14_method_6_code
def yJ2_length_9d52b : MethodName := ⟨RJ2, "length", "([B)I"⟩
abbrev cJ2_charAt_3b067 : ByteArray := prog_14_method_83_code
def yJ2_charAt_3b067 : MethodName := ⟨RJ2, "charAt", "([BI)C"⟩
abbrev cJ2_checkIndex_2214a : ByteArray := prog_14_method_91_code
def yJ2_checkIndex_2214a : MethodName := ⟨RJ2, "checkIndex", "(I[B)V"⟩
def RJ3 : String := "jdk/internal/util/Preconditions"
def TJ3 : u_T := fun k => match k with
  | _ => ("", "", "", false)
def tyJ3 : Nat → FieldType := fun k => match k with
  | _ => .int
abbrev wsJ30 : List Cond := u_ws RJ3 TJ3 0
theorem nmJ3 : ∀ a, a < 0 → ∀ b, b < 0 → a ≠ b → (TJ3 a).2.1 ≠ (TJ3 b).2.1 := by decide +kernel
theorem tyJ3_ok : ∀ k, k < 0 → parseFieldDescriptor (TJ3 k).2.2.1 = some (tyJ3 k) := by decide +kernel
abbrev cJ3_checkIndex_8e157 : ByteArray := prog_15_method_11_code
def yJ3_checkIndex_8e157 : MethodName := ⟨RJ3, "checkIndex", "(IILjava/util/function/BiFunction;)I"⟩
def RL : String := "SeatSwapLaw"
abbrev cL_law : ByteArray := code
def yL_law : MethodName := ⟨RL, "law", "([I)Z"⟩
abbrev vwCl : List vw_C := [(RX0, TX0, 3), (RX1, TX1, 3), (RX2, TX2, 6), (RX3, TX3, 3), (RX4, TX4, 2), (RX5, TX5, 13), (RX6, TX6, 10), (RX7, TX7, 10), (RX8, TX8, 18)]
