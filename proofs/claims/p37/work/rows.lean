section
-- ===== PART A: goes FIRST, ahead of the names: the tables' words, and 'selects' of the private methods out of them =====
/-- a private method of a class that the tables say can be made, by its rows of tables_1 -/
def lw_okq (q : MethodName × Nat) : Prop := (q.1.cls ≠ "java/lang/invoke/MethodHandle" ∧ q.1.cls ≠ "java/lang/invoke/VarHandle") ∧ Cond.instantiable q.1.cls q.2 ∈ tables_1 ∧ Cond.privateMethod q.1 ∈ tables_1 ∧ Cond.instanceMethod q.1 ∈ tables_1
theorem lw_p0 : lw_okq (⟨"SeatSwap$Tape", "put", "(I)V"⟩, 2) := ⟨⟨by decide +kernel, by decide +kernel⟩, List.mem_of_getElem? (i := 30) (by decide +kernel), List.mem_of_getElem? (i := 307) (by decide +kernel), List.mem_of_getElem? (i := 308) (by decide +kernel)⟩
theorem lw_p1 : lw_okq (⟨"SeatSwap$SetupReader", "begin", "()V"⟩, 6) := ⟨⟨by decide +kernel, by decide +kernel⟩, List.mem_of_getElem? (i := 24) (by decide +kernel), List.mem_of_getElem? (i := 334) (by decide +kernel), List.mem_of_getElem? (i := 335) (by decide +kernel)⟩
theorem lw_p2 : lw_okq (⟨"SeatSwap$SetupReader", "nextToken", "()V"⟩, 6) := ⟨⟨by decide +kernel, by decide +kernel⟩, List.mem_of_getElem? (i := 24) (by decide +kernel), List.mem_of_getElem? (i := 338) (by decide +kernel), List.mem_of_getElem? (i := 339) (by decide +kernel)⟩
theorem lw_p3 : lw_okq (⟨"SeatSwap$SetupReader", "take", "(Ljava/lang/String;)V"⟩, 6) := ⟨⟨by decide +kernel, by decide +kernel⟩, List.mem_of_getElem? (i := 24) (by decide +kernel), List.mem_of_getElem? (i := 350) (by decide +kernel), List.mem_of_getElem? (i := 351) (by decide +kernel)⟩
theorem lw_p4 : lw_okq (⟨"SeatSwap$SetupReader", "isWord", "(Ljava/lang/String;)Z"⟩, 6) := ⟨⟨by decide +kernel, by decide +kernel⟩, List.mem_of_getElem? (i := 24) (by decide +kernel), List.mem_of_getElem? (i := 354) (by decide +kernel), List.mem_of_getElem? (i := 355) (by decide +kernel)⟩
theorem lw_p5 : lw_okq (⟨"SeatSwap$SetupReader", "pass", "(Z)V"⟩, 6) := ⟨⟨by decide +kernel, by decide +kernel⟩, List.mem_of_getElem? (i := 24) (by decide +kernel), List.mem_of_getElem? (i := 406) (by decide +kernel), List.mem_of_getElem? (i := 407) (by decide +kernel)⟩
theorem lw_p6 : lw_okq (⟨"SeatSwap$SetupReader", "takeInt", "(II)I"⟩, 6) := ⟨⟨by decide +kernel, by decide +kernel⟩, List.mem_of_getElem? (i := 24) (by decide +kernel), List.mem_of_getElem? (i := 410) (by decide +kernel), List.mem_of_getElem? (i := 411) (by decide +kernel)⟩
theorem lw_p7 : lw_okq (⟨"SeatSwap$SetupReader", "number", "()I"⟩, 6) := ⟨⟨by decide +kernel, by decide +kernel⟩, List.mem_of_getElem? (i := 24) (by decide +kernel), List.mem_of_getElem? (i := 414) (by decide +kernel), List.mem_of_getElem? (i := 415) (by decide +kernel)⟩
theorem lw_p8 : lw_okq (⟨"SeatSwap$SetupReader", "isSign", "(C)Z"⟩, 6) := ⟨⟨by decide +kernel, by decide +kernel⟩, List.mem_of_getElem? (i := 24) (by decide +kernel), List.mem_of_getElem? (i := 419) (by decide +kernel), List.mem_of_getElem? (i := 420) (by decide +kernel)⟩
theorem lw_p9 : lw_okq (⟨"SeatSwap$SetupReader", "readTraveller", "(LSeatSwap$Train;)V"⟩, 6) := ⟨⟨by decide +kernel, by decide +kernel⟩, List.mem_of_getElem? (i := 24) (by decide +kernel), List.mem_of_getElem? (i := 423) (by decide +kernel), List.mem_of_getElem? (i := 424) (by decide +kernel)⟩
theorem lw_p10 : lw_okq (⟨"SeatSwap$SetupReader", "takeFreeSeat", "(LSeatSwap$Train;)I"⟩, 6) := ⟨⟨by decide +kernel, by decide +kernel⟩, List.mem_of_getElem? (i := 24) (by decide +kernel), List.mem_of_getElem? (i := 432) (by decide +kernel), List.mem_of_getElem? (i := 433) (by decide +kernel)⟩
theorem lw_p11 : lw_okq (⟨"SeatSwap$SetupReader", "takeName", "()I"⟩, 6) := ⟨⟨by decide +kernel, by decide +kernel⟩, List.mem_of_getElem? (i := 24) (by decide +kernel), List.mem_of_getElem? (i := 452) (by decide +kernel), List.mem_of_getElem? (i := 453) (by decide +kernel)⟩
theorem lw_p12 : lw_okq (⟨"SeatSwap$SetupReader", "packedName", "()I"⟩, 6) := ⟨⟨by decide +kernel, by decide +kernel⟩, List.mem_of_getElem? (i := 24) (by decide +kernel), List.mem_of_getElem? (i := 456) (by decide +kernel), List.mem_of_getElem? (i := 457) (by decide +kernel)⟩
theorem lw_p13 : lw_okq (⟨"SeatSwap$SetupReader", "isName", "()Z"⟩, 6) := ⟨⟨by decide +kernel, by decide +kernel⟩, List.mem_of_getElem? (i := 24) (by decide +kernel), List.mem_of_getElem? (i := 460) (by decide +kernel), List.mem_of_getElem? (i := 461) (by decide +kernel)⟩
theorem lw_p14 : lw_okq (⟨"SeatSwap$SetupReader", "isKeyword", "()Z"⟩, 6) := ⟨⟨by decide +kernel, by decide +kernel⟩, List.mem_of_getElem? (i := 24) (by decide +kernel), List.mem_of_getElem? (i := 464) (by decide +kernel), List.mem_of_getElem? (i := 465) (by decide +kernel)⟩
theorem lw_p15 : lw_okq (⟨"SeatSwap$SetupReader", "takeIfThere", "(Ljava/lang/String;)Z"⟩, 6) := ⟨⟨by decide +kernel, by decide +kernel⟩, List.mem_of_getElem? (i := 24) (by decide +kernel), List.mem_of_getElem? (i := 475) (by decide +kernel), List.mem_of_getElem? (i := 476) (by decide +kernel)⟩
def lw_privs_1 : List (MethodName × Nat) := [(⟨"SeatSwap$Tape", "put", "(I)V"⟩, 2), (⟨"SeatSwap$SetupReader", "begin", "()V"⟩, 6), (⟨"SeatSwap$SetupReader", "nextToken", "()V"⟩, 6), (⟨"SeatSwap$SetupReader", "take", "(Ljava/lang/String;)V"⟩, 6), (⟨"SeatSwap$SetupReader", "isWord", "(Ljava/lang/String;)Z"⟩, 6), (⟨"SeatSwap$SetupReader", "pass", "(Z)V"⟩, 6), (⟨"SeatSwap$SetupReader", "takeInt", "(II)I"⟩, 6), (⟨"SeatSwap$SetupReader", "number", "()I"⟩, 6), (⟨"SeatSwap$SetupReader", "isSign", "(C)Z"⟩, 6), (⟨"SeatSwap$SetupReader", "readTraveller", "(LSeatSwap$Train;)V"⟩, 6), (⟨"SeatSwap$SetupReader", "takeFreeSeat", "(LSeatSwap$Train;)I"⟩, 6), (⟨"SeatSwap$SetupReader", "takeName", "()I"⟩, 6), (⟨"SeatSwap$SetupReader", "packedName", "()I"⟩, 6), (⟨"SeatSwap$SetupReader", "isName", "()Z"⟩, 6), (⟨"SeatSwap$SetupReader", "isKeyword", "()Z"⟩, 6), (⟨"SeatSwap$SetupReader", "takeIfThere", "(Ljava/lang/String;)Z"⟩, 6)]
theorem lw_r1 : ∀ q ∈ lw_privs_1, lw_okq q := List.forall_mem_cons.mpr ⟨lw_p0, List.forall_mem_cons.mpr ⟨lw_p1, List.forall_mem_cons.mpr ⟨lw_p2, List.forall_mem_cons.mpr ⟨lw_p3, List.forall_mem_cons.mpr ⟨lw_p4, List.forall_mem_cons.mpr ⟨lw_p5, List.forall_mem_cons.mpr ⟨lw_p6, List.forall_mem_cons.mpr ⟨lw_p7, List.forall_mem_cons.mpr ⟨lw_p8, List.forall_mem_cons.mpr ⟨lw_p9, List.forall_mem_cons.mpr ⟨lw_p10, List.forall_mem_cons.mpr ⟨lw_p11, List.forall_mem_cons.mpr ⟨lw_p12, List.forall_mem_cons.mpr ⟨lw_p13, List.forall_mem_cons.mpr ⟨lw_p14, List.forall_mem_cons.mpr ⟨lw_p15, fun _ h => absurd h List.not_mem_nil⟩⟩⟩⟩⟩⟩⟩⟩⟩⟩⟩⟩⟩⟩⟩⟩
theorem lw_p16 : lw_okq (⟨"SeatSwap$SetupReader", "takeLike", "()I"⟩, 6) := ⟨⟨by decide +kernel, by decide +kernel⟩, List.mem_of_getElem? (i := 24) (by decide +kernel), List.mem_of_getElem? (i := 479) (by decide +kernel), List.mem_of_getElem? (i := 480) (by decide +kernel)⟩
theorem lw_p17 : lw_okq (⟨"SeatSwap$Train", "countAtTable", "(LSeatSwap$Traveller;I)V"⟩, 13) := ⟨⟨by decide +kernel, by decide +kernel⟩, List.mem_of_getElem? (i := 160) (by decide +kernel), List.mem_of_getElem? (i := 495) (by decide +kernel), List.mem_of_getElem? (i := 496) (by decide +kernel)⟩
theorem lw_p18 : lw_okq (⟨"SeatSwap$Past", "trainAt", "(I)LSeatSwap$Train;"⟩, 3) := ⟨⟨by decide +kernel, by decide +kernel⟩, List.mem_of_getElem? (i := 244) (by decide +kernel), List.mem_of_getElem? (i := 536) (by decide +kernel), List.mem_of_getElem? (i := 537) (by decide +kernel)⟩
theorem lw_p19 : lw_okq (⟨"SeatSwap$Log", "indexOf", "(II)I"⟩, 3) := ⟨⟨by decide +kernel, by decide +kernel⟩, List.mem_of_getElem? (i := 169) (by decide +kernel), List.mem_of_getElem? (i := 554) (by decide +kernel), List.mem_of_getElem? (i := 555) (by decide +kernel)⟩
theorem lw_p20 : lw_okq (⟨"SeatSwap$Log", "put", "(II)V"⟩, 3) := ⟨⟨by decide +kernel, by decide +kernel⟩, List.mem_of_getElem? (i := 169) (by decide +kernel), List.mem_of_getElem? (i := 559) (by decide +kernel), List.mem_of_getElem? (i := 560) (by decide +kernel)⟩
theorem lw_p21 : lw_okq (⟨"SeatSwap", "arePair", "(II)Z"⟩, 10) := ⟨⟨by decide +kernel, by decide +kernel⟩, List.mem_of_getElem? (i := 16) (by decide +kernel), List.mem_of_getElem? (i := 596) (by decide +kernel), List.mem_of_getElem? (i := 597) (by decide +kernel)⟩
theorem lw_p22 : lw_okq (⟨"SeatSwap$Train", "membersAt", "(II)I"⟩, 13) := ⟨⟨by decide +kernel, by decide +kernel⟩, List.mem_of_getElem? (i := 160) (by decide +kernel), List.mem_of_getElem? (i := 621) (by decide +kernel), List.mem_of_getElem? (i := 622) (by decide +kernel)⟩
theorem lw_p23 : lw_okq (⟨"SeatSwap$Train", "exchangeSeats", "(II)V"⟩, 13) := ⟨⟨by decide +kernel, by decide +kernel⟩, List.mem_of_getElem? (i := 160) (by decide +kernel), List.mem_of_getElem? (i := 631) (by decide +kernel), List.mem_of_getElem? (i := 632) (by decide +kernel)⟩
theorem lw_p24 : lw_okq (⟨"SeatSwap$Train", "sitDown", "(II)V"⟩, 13) := ⟨⟨by decide +kernel, by decide +kernel⟩, List.mem_of_getElem? (i := 160) (by decide +kernel), List.mem_of_getElem? (i := 635) (by decide +kernel), List.mem_of_getElem? (i := 636) (by decide +kernel)⟩
theorem lw_p25 : lw_okq (⟨"SeatSwap$Train", "passSeats", "(III)V"⟩, 13) := ⟨⟨by decide +kernel, by decide +kernel⟩, List.mem_of_getElem? (i := 160) (by decide +kernel), List.mem_of_getElem? (i := 674) (by decide +kernel), List.mem_of_getElem? (i := 675) (by decide +kernel)⟩
theorem lw_p26 : lw_okq (⟨"SeatSwap", "settleDraft", "()I"⟩, 10) := ⟨⟨by decide +kernel, by decide +kernel⟩, List.mem_of_getElem? (i := 16) (by decide +kernel), List.mem_of_getElem? (i := 690) (by decide +kernel), List.mem_of_getElem? (i := 691) (by decide +kernel)⟩
theorem lw_p27 : lw_okq (⟨"SeatSwap$Train", "letOff", "(I)V"⟩, 13) := ⟨⟨by decide +kernel, by decide +kernel⟩, List.mem_of_getElem? (i := 160) (by decide +kernel), List.mem_of_getElem? (i := 712) (by decide +kernel), List.mem_of_getElem? (i := 713) (by decide +kernel)⟩
theorem lw_p28 : lw_okq (⟨"SeatSwap$Train", "isAt", "(II)Z"⟩, 13) := ⟨⟨by decide +kernel, by decide +kernel⟩, List.mem_of_getElem? (i := 160) (by decide +kernel), List.mem_of_getElem? (i := 787) (by decide +kernel), List.mem_of_getElem? (i := 788) (by decide +kernel)⟩
theorem lw_p29 : lw_okq (⟨"SeatSwap$Train", "seatSign", "(I)I"⟩, 13) := ⟨⟨by decide +kernel, by decide +kernel⟩, List.mem_of_getElem? (i := 160) (by decide +kernel), List.mem_of_getElem? (i := 914) (by decide +kernel), List.mem_of_getElem? (i := 915) (by decide +kernel)⟩
theorem lw_p30 : lw_okq (⟨"SeatSwap$SetupWriter", "putText", "(Ljava/lang/String;)V"⟩, 3) := ⟨⟨by decide +kernel, by decide +kernel⟩, List.mem_of_getElem? (i := 142) (by decide +kernel), List.mem_of_getElem? (i := 928) (by decide +kernel), List.mem_of_getElem? (i := 929) (by decide +kernel)⟩
theorem lw_p31 : lw_okq (⟨"SeatSwap$SetupWriter", "put", "(I)V"⟩, 3) := ⟨⟨by decide +kernel, by decide +kernel⟩, List.mem_of_getElem? (i := 142) (by decide +kernel), List.mem_of_getElem? (i := 934) (by decide +kernel), List.mem_of_getElem? (i := 935) (by decide +kernel)⟩
def lw_privs_2 : List (MethodName × Nat) := [(⟨"SeatSwap$SetupReader", "takeLike", "()I"⟩, 6), (⟨"SeatSwap$Train", "countAtTable", "(LSeatSwap$Traveller;I)V"⟩, 13), (⟨"SeatSwap$Past", "trainAt", "(I)LSeatSwap$Train;"⟩, 3), (⟨"SeatSwap$Log", "indexOf", "(II)I"⟩, 3), (⟨"SeatSwap$Log", "put", "(II)V"⟩, 3), (⟨"SeatSwap", "arePair", "(II)Z"⟩, 10), (⟨"SeatSwap$Train", "membersAt", "(II)I"⟩, 13), (⟨"SeatSwap$Train", "exchangeSeats", "(II)V"⟩, 13), (⟨"SeatSwap$Train", "sitDown", "(II)V"⟩, 13), (⟨"SeatSwap$Train", "passSeats", "(III)V"⟩, 13), (⟨"SeatSwap", "settleDraft", "()I"⟩, 10), (⟨"SeatSwap$Train", "letOff", "(I)V"⟩, 13), (⟨"SeatSwap$Train", "isAt", "(II)Z"⟩, 13), (⟨"SeatSwap$Train", "seatSign", "(I)I"⟩, 13), (⟨"SeatSwap$SetupWriter", "putText", "(Ljava/lang/String;)V"⟩, 3), (⟨"SeatSwap$SetupWriter", "put", "(I)V"⟩, 3)]
theorem lw_r2 : ∀ q ∈ lw_privs_2, lw_okq q := List.forall_mem_cons.mpr ⟨lw_p16, List.forall_mem_cons.mpr ⟨lw_p17, List.forall_mem_cons.mpr ⟨lw_p18, List.forall_mem_cons.mpr ⟨lw_p19, List.forall_mem_cons.mpr ⟨lw_p20, List.forall_mem_cons.mpr ⟨lw_p21, List.forall_mem_cons.mpr ⟨lw_p22, List.forall_mem_cons.mpr ⟨lw_p23, List.forall_mem_cons.mpr ⟨lw_p24, List.forall_mem_cons.mpr ⟨lw_p25, List.forall_mem_cons.mpr ⟨lw_p26, List.forall_mem_cons.mpr ⟨lw_p27, List.forall_mem_cons.mpr ⟨lw_p28, List.forall_mem_cons.mpr ⟨lw_p29, List.forall_mem_cons.mpr ⟨lw_p30, List.forall_mem_cons.mpr ⟨lw_p31, fun _ h => absurd h List.not_mem_nil⟩⟩⟩⟩⟩⟩⟩⟩⟩⟩⟩⟩⟩⟩⟩⟩
theorem lw_p32 : lw_okq (⟨"SeatSwap$SetupWriter", "putNumber", "(I)V"⟩, 3) := ⟨⟨by decide +kernel, by decide +kernel⟩, List.mem_of_getElem? (i := 142) (by decide +kernel), List.mem_of_getElem? (i := 938) (by decide +kernel), List.mem_of_getElem? (i := 939) (by decide +kernel)⟩
theorem lw_p33 : lw_okq (⟨"SeatSwap$SetupWriter", "putTraveller", "(LSeatSwap$Traveller;)V"⟩, 3) := ⟨⟨by decide +kernel, by decide +kernel⟩, List.mem_of_getElem? (i := 142) (by decide +kernel), List.mem_of_getElem? (i := 945) (by decide +kernel), List.mem_of_getElem? (i := 946) (by decide +kernel)⟩
theorem lw_p34 : lw_okq (⟨"SeatSwap$SetupWriter", "putPart", "(Ljava/lang/String;II)V"⟩, 3) := ⟨⟨by decide +kernel, by decide +kernel⟩, List.mem_of_getElem? (i := 142) (by decide +kernel), List.mem_of_getElem? (i := 953) (by decide +kernel), List.mem_of_getElem? (i := 954) (by decide +kernel)⟩
theorem lw_p35 : lw_okq (⟨"SeatSwap$SetupWriter", "putLike", "(Ljava/lang/String;I)V"⟩, 3) := ⟨⟨by decide +kernel, by decide +kernel⟩, List.mem_of_getElem? (i := 142) (by decide +kernel), List.mem_of_getElem? (i := 958) (by decide +kernel), List.mem_of_getElem? (i := 959) (by decide +kernel)⟩
theorem lw_p36 : lw_okq (⟨"SeatSwapModel", "next", "()V"⟩, 18) := ⟨⟨by decide +kernel, by decide +kernel⟩, List.mem_of_getElem? (i := 971) (by decide +kernel), List.mem_of_getElem? (i := 1047) (by decide +kernel), List.mem_of_getElem? (i := 1048) (by decide +kernel)⟩
theorem lw_p37 : lw_okq (⟨"SeatSwapModel", "isSmall", "(I)Z"⟩, 18) := ⟨⟨by decide +kernel, by decide +kernel⟩, List.mem_of_getElem? (i := 971) (by decide +kernel), List.mem_of_getElem? (i := 1051) (by decide +kernel), List.mem_of_getElem? (i := 1052) (by decide +kernel)⟩
theorem lw_p38 : lw_okq (⟨"SeatSwapModel", "nextWord", "()V"⟩, 18) := ⟨⟨by decide +kernel, by decide +kernel⟩, List.mem_of_getElem? (i := 971) (by decide +kernel), List.mem_of_getElem? (i := 1055) (by decide +kernel), List.mem_of_getElem? (i := 1056) (by decide +kernel)⟩
theorem lw_p39 : lw_okq (⟨"SeatSwapModel", "isDigit", "(I)Z"⟩, 18) := ⟨⟨by decide +kernel, by decide +kernel⟩, List.mem_of_getElem? (i := 971) (by decide +kernel), List.mem_of_getElem? (i := 1059) (by decide +kernel), List.mem_of_getElem? (i := 1060) (by decide +kernel)⟩
theorem lw_p40 : lw_okq (⟨"SeatSwapModel", "nextNumber", "()V"⟩, 18) := ⟨⟨by decide +kernel, by decide +kernel⟩, List.mem_of_getElem? (i := 971) (by decide +kernel), List.mem_of_getElem? (i := 1063) (by decide +kernel), List.mem_of_getElem? (i := 1064) (by decide +kernel)⟩
theorem lw_p41 : lw_okq (⟨"SeatSwapModel", "is", "(I)Z"⟩, 18) := ⟨⟨by decide +kernel, by decide +kernel⟩, List.mem_of_getElem? (i := 971) (by decide +kernel), List.mem_of_getElem? (i := 1068) (by decide +kernel), List.mem_of_getElem? (i := 1069) (by decide +kernel)⟩
theorem lw_p42 : lw_okq (⟨"SeatSwapModel", "takes", "(Z)Z"⟩, 18) := ⟨⟨by decide +kernel, by decide +kernel⟩, List.mem_of_getElem? (i := 971) (by decide +kernel), List.mem_of_getElem? (i := 1072) (by decide +kernel), List.mem_of_getElem? (i := 1073) (by decide +kernel)⟩
theorem lw_p43 : lw_okq (⟨"SeatSwapModel", "takesNumber", "(II)I"⟩, 18) := ⟨⟨by decide +kernel, by decide +kernel⟩, List.mem_of_getElem? (i := 971) (by decide +kernel), List.mem_of_getElem? (i := 1076) (by decide +kernel), List.mem_of_getElem? (i := 1077) (by decide +kernel)⟩
theorem lw_p44 : lw_okq (⟨"SeatSwapModel", "readSeat", "()V"⟩, 18) := ⟨⟨by decide +kernel, by decide +kernel⟩, List.mem_of_getElem? (i := 971) (by decide +kernel), List.mem_of_getElem? (i := 1085) (by decide +kernel), List.mem_of_getElem? (i := 1086) (by decide +kernel)⟩
theorem lw_p45 : lw_okq (⟨"SeatSwapModel", "takesWord", "(I)Z"⟩, 18) := ⟨⟨by decide +kernel, by decide +kernel⟩, List.mem_of_getElem? (i := 971) (by decide +kernel), List.mem_of_getElem? (i := 1108) (by decide +kernel), List.mem_of_getElem? (i := 1109) (by decide +kernel)⟩
theorem lw_p46 : lw_okq (⟨"SeatSwapModel", "takesLike", "()I"⟩, 18) := ⟨⟨by decide +kernel, by decide +kernel⟩, List.mem_of_getElem? (i := 971) (by decide +kernel), List.mem_of_getElem? (i := 1114) (by decide +kernel), List.mem_of_getElem? (i := 1115) (by decide +kernel)⟩
theorem lw_p47 : lw_okq (⟨"SeatSwapModel", "tapeName", "()I"⟩, 18) := ⟨⟨by decide +kernel, by decide +kernel⟩, List.mem_of_getElem? (i := 971) (by decide +kernel), List.mem_of_getElem? (i := 1137) (by decide +kernel), List.mem_of_getElem? (i := 1138) (by decide +kernel)⟩
def lw_privs_3 : List (MethodName × Nat) := [(⟨"SeatSwap$SetupWriter", "putNumber", "(I)V"⟩, 3), (⟨"SeatSwap$SetupWriter", "putTraveller", "(LSeatSwap$Traveller;)V"⟩, 3), (⟨"SeatSwap$SetupWriter", "putPart", "(Ljava/lang/String;II)V"⟩, 3), (⟨"SeatSwap$SetupWriter", "putLike", "(Ljava/lang/String;I)V"⟩, 3), (⟨"SeatSwapModel", "next", "()V"⟩, 18), (⟨"SeatSwapModel", "isSmall", "(I)Z"⟩, 18), (⟨"SeatSwapModel", "nextWord", "()V"⟩, 18), (⟨"SeatSwapModel", "isDigit", "(I)Z"⟩, 18), (⟨"SeatSwapModel", "nextNumber", "()V"⟩, 18), (⟨"SeatSwapModel", "is", "(I)Z"⟩, 18), (⟨"SeatSwapModel", "takes", "(Z)Z"⟩, 18), (⟨"SeatSwapModel", "takesNumber", "(II)I"⟩, 18), (⟨"SeatSwapModel", "readSeat", "()V"⟩, 18), (⟨"SeatSwapModel", "takesWord", "(I)Z"⟩, 18), (⟨"SeatSwapModel", "takesLike", "()I"⟩, 18), (⟨"SeatSwapModel", "tapeName", "()I"⟩, 18)]
theorem lw_r3 : ∀ q ∈ lw_privs_3, lw_okq q := List.forall_mem_cons.mpr ⟨lw_p32, List.forall_mem_cons.mpr ⟨lw_p33, List.forall_mem_cons.mpr ⟨lw_p34, List.forall_mem_cons.mpr ⟨lw_p35, List.forall_mem_cons.mpr ⟨lw_p36, List.forall_mem_cons.mpr ⟨lw_p37, List.forall_mem_cons.mpr ⟨lw_p38, List.forall_mem_cons.mpr ⟨lw_p39, List.forall_mem_cons.mpr ⟨lw_p40, List.forall_mem_cons.mpr ⟨lw_p41, List.forall_mem_cons.mpr ⟨lw_p42, List.forall_mem_cons.mpr ⟨lw_p43, List.forall_mem_cons.mpr ⟨lw_p44, List.forall_mem_cons.mpr ⟨lw_p45, List.forall_mem_cons.mpr ⟨lw_p46, List.forall_mem_cons.mpr ⟨lw_p47, fun _ h => absurd h List.not_mem_nil⟩⟩⟩⟩⟩⟩⟩⟩⟩⟩⟩⟩⟩⟩⟩⟩
theorem lw_p48 : lw_okq (⟨"SeatSwapModel", "isSeat", "(I)Z"⟩, 18) := ⟨⟨by decide +kernel, by decide +kernel⟩, List.mem_of_getElem? (i := 971) (by decide +kernel), List.mem_of_getElem? (i := 1141) (by decide +kernel), List.mem_of_getElem? (i := 1142) (by decide +kernel)⟩
theorem lw_p49 : lw_okq (⟨"SeatSwapModel", "keepForUndo", "()V"⟩, 18) := ⟨⟨by decide +kernel, by decide +kernel⟩, List.mem_of_getElem? (i := 971) (by decide +kernel), List.mem_of_getElem? (i := 1145) (by decide +kernel), List.mem_of_getElem? (i := 1146) (by decide +kernel)⟩
theorem lw_p50 : lw_okq (⟨"SeatSwapModel", "tells", "(III)V"⟩, 18) := ⟨⟨by decide +kernel, by decide +kernel⟩, List.mem_of_getElem? (i := 971) (by decide +kernel), List.mem_of_getElem? (i := 1149) (by decide +kernel), List.mem_of_getElem? (i := 1150) (by decide +kernel)⟩
theorem lw_p51 : lw_okq (⟨"SeatSwapModel", "isTraveller", "(I)Z"⟩, 18) := ⟨⟨by decide +kernel, by decide +kernel⟩, List.mem_of_getElem? (i := 971) (by decide +kernel), List.mem_of_getElem? (i := 1157) (by decide +kernel), List.mem_of_getElem? (i := 1158) (by decide +kernel)⟩
theorem lw_p52 : lw_okq (⟨"SeatSwapModel", "isNumber", "(II)Z"⟩, 18) := ⟨⟨by decide +kernel, by decide +kernel⟩, List.mem_of_getElem? (i := 971) (by decide +kernel), List.mem_of_getElem? (i := 1161) (by decide +kernel), List.mem_of_getElem? (i := 1162) (by decide +kernel)⟩
theorem lw_p53 : lw_okq (⟨"SeatSwapModel", "isPair", "(II)Z"⟩, 18) := ⟨⟨by decide +kernel, by decide +kernel⟩, List.mem_of_getElem? (i := 971) (by decide +kernel), List.mem_of_getElem? (i := 1179) (by decide +kernel), List.mem_of_getElem? (i := 1180) (by decide +kernel)⟩
theorem lw_p54 : lw_okq (⟨"SeatSwapModel", "takesSpare", "()V"⟩, 18) := ⟨⟨by decide +kernel, by decide +kernel⟩, List.mem_of_getElem? (i := 971) (by decide +kernel), List.mem_of_getElem? (i := 1243) (by decide +kernel), List.mem_of_getElem? (i := 1244) (by decide +kernel)⟩
theorem lw_p55 : lw_okq (⟨"SeatSwapModel", "stops", "()V"⟩, 18) := ⟨⟨by decide +kernel, by decide +kernel⟩, List.mem_of_getElem? (i := 971) (by decide +kernel), List.mem_of_getElem? (i := 1263) (by decide +kernel), List.mem_of_getElem? (i := 1264) (by decide +kernel)⟩
theorem lw_p56 : lw_okq (⟨"SeatSwapModel", "getsOff", "(I)V"⟩, 18) := ⟨⟨by decide +kernel, by decide +kernel⟩, List.mem_of_getElem? (i := 971) (by decide +kernel), List.mem_of_getElem? (i := 1267) (by decide +kernel), List.mem_of_getElem? (i := 1268) (by decide +kernel)⟩
theorem lw_p57 : lw_okq (⟨"SeatSwapModel", "sweetsAll", "()I"⟩, 18) := ⟨⟨by decide +kernel, by decide +kernel⟩, List.mem_of_getElem? (i := 971) (by decide +kernel), List.mem_of_getElem? (i := 1290) (by decide +kernel), List.mem_of_getElem? (i := 1291) (by decide +kernel)⟩
theorem lw_p58 : lw_okq (⟨"SeatSwapModel", "familiesAll", "()I"⟩, 18) := ⟨⟨by decide +kernel, by decide +kernel⟩, List.mem_of_getElem? (i := 971) (by decide +kernel), List.mem_of_getElem? (i := 1297) (by decide +kernel), List.mem_of_getElem? (i := 1298) (by decide +kernel)⟩
theorem lw_p59 : lw_okq (⟨"SeatSwapModel", "membersOf", "(I)I"⟩, 18) := ⟨⟨by decide +kernel, by decide +kernel⟩, List.mem_of_getElem? (i := 971) (by decide +kernel), List.mem_of_getElem? (i := 1301) (by decide +kernel), List.mem_of_getElem? (i := 1302) (by decide +kernel)⟩
theorem lw_p60 : lw_okq (⟨"SeatSwapModel", "rankOf", "(I)I"⟩, 18) := ⟨⟨by decide +kernel, by decide +kernel⟩, List.mem_of_getElem? (i := 971) (by decide +kernel), List.mem_of_getElem? (i := 1309) (by decide +kernel), List.mem_of_getElem? (i := 1310) (by decide +kernel)⟩
theorem lw_p61 : lw_okq (⟨"SeatSwapModel", "isAtTable", "(II)Z"⟩, 18) := ⟨⟨by decide +kernel, by decide +kernel⟩, List.mem_of_getElem? (i := 971) (by decide +kernel), List.mem_of_getElem? (i := 1328) (by decide +kernel), List.mem_of_getElem? (i := 1329) (by decide +kernel)⟩
theorem lw_p62 : lw_okq (⟨"SeatSwapModel", "familyAt", "(I)I"⟩, 18) := ⟨⟨by decide +kernel, by decide +kernel⟩, List.mem_of_getElem? (i := 971) (by decide +kernel), List.mem_of_getElem? (i := 1332) (by decide +kernel), List.mem_of_getElem? (i := 1333) (by decide +kernel)⟩
theorem lw_p63 : lw_okq (⟨"SeatSwapModel", "membersAt", "(II)I"⟩, 18) := ⟨⟨by decide +kernel, by decide +kernel⟩, List.mem_of_getElem? (i := 971) (by decide +kernel), List.mem_of_getElem? (i := 1336) (by decide +kernel), List.mem_of_getElem? (i := 1337) (by decide +kernel)⟩
def lw_privs_4 : List (MethodName × Nat) := [(⟨"SeatSwapModel", "isSeat", "(I)Z"⟩, 18), (⟨"SeatSwapModel", "keepForUndo", "()V"⟩, 18), (⟨"SeatSwapModel", "tells", "(III)V"⟩, 18), (⟨"SeatSwapModel", "isTraveller", "(I)Z"⟩, 18), (⟨"SeatSwapModel", "isNumber", "(II)Z"⟩, 18), (⟨"SeatSwapModel", "isPair", "(II)Z"⟩, 18), (⟨"SeatSwapModel", "takesSpare", "()V"⟩, 18), (⟨"SeatSwapModel", "stops", "()V"⟩, 18), (⟨"SeatSwapModel", "getsOff", "(I)V"⟩, 18), (⟨"SeatSwapModel", "sweetsAll", "()I"⟩, 18), (⟨"SeatSwapModel", "familiesAll", "()I"⟩, 18), (⟨"SeatSwapModel", "membersOf", "(I)I"⟩, 18), (⟨"SeatSwapModel", "rankOf", "(I)I"⟩, 18), (⟨"SeatSwapModel", "isAtTable", "(II)Z"⟩, 18), (⟨"SeatSwapModel", "familyAt", "(I)I"⟩, 18), (⟨"SeatSwapModel", "membersAt", "(II)I"⟩, 18)]
theorem lw_r4 : ∀ q ∈ lw_privs_4, lw_okq q := List.forall_mem_cons.mpr ⟨lw_p48, List.forall_mem_cons.mpr ⟨lw_p49, List.forall_mem_cons.mpr ⟨lw_p50, List.forall_mem_cons.mpr ⟨lw_p51, List.forall_mem_cons.mpr ⟨lw_p52, List.forall_mem_cons.mpr ⟨lw_p53, List.forall_mem_cons.mpr ⟨lw_p54, List.forall_mem_cons.mpr ⟨lw_p55, List.forall_mem_cons.mpr ⟨lw_p56, List.forall_mem_cons.mpr ⟨lw_p57, List.forall_mem_cons.mpr ⟨lw_p58, List.forall_mem_cons.mpr ⟨lw_p59, List.forall_mem_cons.mpr ⟨lw_p60, List.forall_mem_cons.mpr ⟨lw_p61, List.forall_mem_cons.mpr ⟨lw_p62, List.forall_mem_cons.mpr ⟨lw_p63, fun _ h => absurd h List.not_mem_nil⟩⟩⟩⟩⟩⟩⟩⟩⟩⟩⟩⟩⟩⟩⟩⟩
theorem lw_p64 : lw_okq (⟨"SeatSwapModel", "tablesOfFamily", "(I)I"⟩, 18) := ⟨⟨by decide +kernel, by decide +kernel⟩, List.mem_of_getElem? (i := 971) (by decide +kernel), List.mem_of_getElem? (i := 1344) (by decide +kernel), List.mem_of_getElem? (i := 1345) (by decide +kernel)⟩
theorem lw_p65 : lw_okq (⟨"SeatSwapModel", "joyOfFamily", "(I)I"⟩, 18) := ⟨⟨by decide +kernel, by decide +kernel⟩, List.mem_of_getElem? (i := 971) (by decide +kernel), List.mem_of_getElem? (i := 1348) (by decide +kernel), List.mem_of_getElem? (i := 1349) (by decide +kernel)⟩
theorem lw_p66 : lw_okq (⟨"SeatSwapModel", "layPlan", "()V"⟩, 18) := ⟨⟨by decide +kernel, by decide +kernel⟩, List.mem_of_getElem? (i := 971) (by decide +kernel), List.mem_of_getElem? (i := 1412) (by decide +kernel), List.mem_of_getElem? (i := 1413) (by decide +kernel)⟩
theorem lw_p67 : lw_okq (⟨"SeatSwapModel", "puts", "(I)V"⟩, 18) := ⟨⟨by decide +kernel, by decide +kernel⟩, List.mem_of_getElem? (i := 971) (by decide +kernel), List.mem_of_getElem? (i := 1416) (by decide +kernel), List.mem_of_getElem? (i := 1417) (by decide +kernel)⟩
theorem lw_p68 : lw_okq (⟨"SeatSwapModel", "putsSeat", "(I)V"⟩, 18) := ⟨⟨by decide +kernel, by decide +kernel⟩, List.mem_of_getElem? (i := 971) (by decide +kernel), List.mem_of_getElem? (i := 1420) (by decide +kernel), List.mem_of_getElem? (i := 1421) (by decide +kernel)⟩
theorem lw_p69 : lw_okq (⟨"SeatSwapModel", "writtenAt", "(I)I"⟩, 18) := ⟨⟨by decide +kernel, by decide +kernel⟩, List.mem_of_getElem? (i := 971) (by decide +kernel), List.mem_of_getElem? (i := 1428) (by decide +kernel), List.mem_of_getElem? (i := 1429) (by decide +kernel)⟩
theorem lw_p70 : lw_okq (⟨"SeatSwapModel", "laySetup", "()V"⟩, 18) := ⟨⟨by decide +kernel, by decide +kernel⟩, List.mem_of_getElem? (i := 971) (by decide +kernel), List.mem_of_getElem? (i := 1436) (by decide +kernel), List.mem_of_getElem? (i := 1437) (by decide +kernel)⟩
theorem lw_p71 : lw_okq (⟨"SeatSwapModel", "putsWord", "(I)V"⟩, 18) := ⟨⟨by decide +kernel, by decide +kernel⟩, List.mem_of_getElem? (i := 971) (by decide +kernel), List.mem_of_getElem? (i := 1440) (by decide +kernel), List.mem_of_getElem? (i := 1441) (by decide +kernel)⟩
theorem lw_p72 : lw_okq (⟨"SeatSwapModel", "putsNext", "(I)V"⟩, 18) := ⟨⟨by decide +kernel, by decide +kernel⟩, List.mem_of_getElem? (i := 971) (by decide +kernel), List.mem_of_getElem? (i := 1444) (by decide +kernel), List.mem_of_getElem? (i := 1445) (by decide +kernel)⟩
theorem lw_p73 : lw_okq (⟨"SeatSwapModel", "putsNumber", "(I)V"⟩, 18) := ⟨⟨by decide +kernel, by decide +kernel⟩, List.mem_of_getElem? (i := 971) (by decide +kernel), List.mem_of_getElem? (i := 1448) (by decide +kernel), List.mem_of_getElem? (i := 1449) (by decide +kernel)⟩
theorem lw_p74 : lw_okq (⟨"SeatSwapModel", "putsTraveller", "(I)V"⟩, 18) := ⟨⟨by decide +kernel, by decide +kernel⟩, List.mem_of_getElem? (i := 971) (by decide +kernel), List.mem_of_getElem? (i := 1452) (by decide +kernel), List.mem_of_getElem? (i := 1453) (by decide +kernel)⟩
theorem lw_p75 : lw_okq (⟨"SeatSwapModel", "putsPart", "(II)V"⟩, 18) := ⟨⟨by decide +kernel, by decide +kernel⟩, List.mem_of_getElem? (i := 971) (by decide +kernel), List.mem_of_getElem? (i := 1456) (by decide +kernel), List.mem_of_getElem? (i := 1457) (by decide +kernel)⟩
theorem lw_p76 : lw_okq (⟨"SeatSwapModel", "putsLike", "(II)V"⟩, 18) := ⟨⟨by decide +kernel, by decide +kernel⟩, List.mem_of_getElem? (i := 971) (by decide +kernel), List.mem_of_getElem? (i := 1460) (by decide +kernel), List.mem_of_getElem? (i := 1461) (by decide +kernel)⟩
theorem lw_p77 : lw_okq (⟨"SeatSwapModel", "putsSweets", "(I)V"⟩, 18) := ⟨⟨by decide +kernel, by decide +kernel⟩, List.mem_of_getElem? (i := 971) (by decide +kernel), List.mem_of_getElem? (i := 1464) (by decide +kernel), List.mem_of_getElem? (i := 1465) (by decide +kernel)⟩
def lw_privs_5 : List (MethodName × Nat) := [(⟨"SeatSwapModel", "tablesOfFamily", "(I)I"⟩, 18), (⟨"SeatSwapModel", "joyOfFamily", "(I)I"⟩, 18), (⟨"SeatSwapModel", "layPlan", "()V"⟩, 18), (⟨"SeatSwapModel", "puts", "(I)V"⟩, 18), (⟨"SeatSwapModel", "putsSeat", "(I)V"⟩, 18), (⟨"SeatSwapModel", "writtenAt", "(I)I"⟩, 18), (⟨"SeatSwapModel", "laySetup", "()V"⟩, 18), (⟨"SeatSwapModel", "putsWord", "(I)V"⟩, 18), (⟨"SeatSwapModel", "putsNext", "(I)V"⟩, 18), (⟨"SeatSwapModel", "putsNumber", "(I)V"⟩, 18), (⟨"SeatSwapModel", "putsTraveller", "(I)V"⟩, 18), (⟨"SeatSwapModel", "putsPart", "(II)V"⟩, 18), (⟨"SeatSwapModel", "putsLike", "(II)V"⟩, 18), (⟨"SeatSwapModel", "putsSweets", "(I)V"⟩, 18)]
theorem lw_r5 : ∀ q ∈ lw_privs_5, lw_okq q := List.forall_mem_cons.mpr ⟨lw_p64, List.forall_mem_cons.mpr ⟨lw_p65, List.forall_mem_cons.mpr ⟨lw_p66, List.forall_mem_cons.mpr ⟨lw_p67, List.forall_mem_cons.mpr ⟨lw_p68, List.forall_mem_cons.mpr ⟨lw_p69, List.forall_mem_cons.mpr ⟨lw_p70, List.forall_mem_cons.mpr ⟨lw_p71, List.forall_mem_cons.mpr ⟨lw_p72, List.forall_mem_cons.mpr ⟨lw_p73, List.forall_mem_cons.mpr ⟨lw_p74, List.forall_mem_cons.mpr ⟨lw_p75, List.forall_mem_cons.mpr ⟨lw_p76, List.forall_mem_cons.mpr ⟨lw_p77, fun _ h => absurd h List.not_mem_nil⟩⟩⟩⟩⟩⟩⟩⟩⟩⟩⟩⟩⟩⟩
def lw_privs : List (MethodName × Nat) := lw_privs_1 ++ (lw_privs_2 ++ (lw_privs_3 ++ (lw_privs_4 ++ (lw_privs_5))))
def lw_tbl : List Cond := k2_sels lw_privs ++ tables_1
theorem lw_privs_ok : ∀ q ∈ lw_privs, lw_okq q := by
  show ∀ q ∈ lw_privs_1 ++ (lw_privs_2 ++ (lw_privs_3 ++ (lw_privs_4 ++ (lw_privs_5)))), lw_okq q
  exact List.forall_mem_append.mpr ⟨lw_r1, List.forall_mem_append.mpr ⟨lw_r2, List.forall_mem_append.mpr ⟨lw_r3, List.forall_mem_append.mpr ⟨lw_r4, lw_r5⟩⟩⟩⟩
/-- the streams that the claim lets the run draw from -/
abbrev lw_cs : List Choice := [Jvm.Choice.named "NaN.bits"]
theorem lw_bits : nanBits ∈ lw_cs := by first | decide | exact List.mem_cons_self | simp [lw_cs, nanBits]
-- ===== end of PART A; names, as printed, trimmed =====
def RX0 : String := "SeatSwap$Log"
def TX0 : u_T := fun k => match k with
  | 0 => ("SeatSwap$Log", "parts", "[I", true)
  | 1 => ("SeatSwap$Log", "oldest", "I", false)
  | _ => ("SeatSwap$Log", "size", "I", false)
def tyX0 : Nat → FieldType := fun k => match k with
  | 0 => .array .int
  | 1 => .int
  | _ => .int
abbrev wsX00 : List Cond := u_ws RX0 TX0 3
theorem nmX0 : ∀ a, a < 3 → ∀ b, b < 3 → a ≠ b → (TX0 a).2.1 ≠ (TX0 b).2.1 := by decide +kernel
theorem tyX0_ok : ∀ k, k < 3 → parseFieldDescriptor (TX0 k).2.2.1 = some (tyX0 k) := by decide +kernel
abbrev cX0_init : ByteArray := prog_2_method_1_code
def yX0_init : MethodName := ⟨RX0, "<init>", "()V"⟩
abbrev cX0_clear : ByteArray := prog_2_method_2_code
def yX0_clear : MethodName := ⟨RX0, "clear", "()V"⟩
abbrev cX0_copyFrom : ByteArray := prog_2_method_3_code
def yX0_copyFrom : MethodName := ⟨RX0, "copyFrom", "(LSeatSwap$Log;)V"⟩
abbrev cX0_indexOf : ByteArray := prog_2_method_4_code
def yX0_indexOf : MethodName := ⟨RX0, "indexOf", "(II)I"⟩
abbrev cX0_put : ByteArray := prog_2_method_5_code
def yX0_put : MethodName := ⟨RX0, "put", "(II)V"⟩
abbrev cX0_add : ByteArray := prog_2_method_6_code
def yX0_add : MethodName := ⟨RX0, "add", "(III)V"⟩
abbrev cX0_part : ByteArray := prog_2_method_7_code
def yX0_part : MethodName := ⟨RX0, "part", "(II)I"⟩
def RX1 : String := "SeatSwap$Past"
def TX1 : u_T := fun k => match k with
  | 0 => ("SeatSwap$Past", "trains", "[LSeatSwap$Train;", true)
  | 1 => ("SeatSwap$Past", "oldest", "I", false)
  | _ => ("SeatSwap$Past", "count", "I", false)
def tyX1 : Nat → FieldType := fun k => match k with
  | 0 => .array (.object "SeatSwap$Train")
  | 1 => .int
  | _ => .int
abbrev wsX10 : List Cond := u_ws RX1 TX1 3
theorem nmX1 : ∀ a, a < 3 → ∀ b, b < 3 → a ≠ b → (TX1 a).2.1 ≠ (TX1 b).2.1 := by decide +kernel
theorem tyX1_ok : ∀ k, k < 3 → parseFieldDescriptor (TX1 k).2.2.1 = some (tyX1 k) := by decide +kernel
abbrev cX1_init : ByteArray := prog_3_method_1_code
def yX1_init : MethodName := ⟨RX1, "<init>", "()V"⟩
abbrev cX1_forget : ByteArray := prog_3_method_2_code
def yX1_forget : MethodName := ⟨RX1, "forget", "()V"⟩
abbrev cX1_trainAt : ByteArray := prog_3_method_3_code
def yX1_trainAt : MethodName := ⟨RX1, "trainAt", "(I)LSeatSwap$Train;"⟩
abbrev cX1_remember : ByteArray := prog_3_method_4_code
def yX1_remember : MethodName := ⟨RX1, "remember", "(LSeatSwap$Train;)V"⟩
abbrev cX1_bringBack : ByteArray := prog_3_method_5_code
def yX1_bringBack : MethodName := ⟨RX1, "bringBack", "(LSeatSwap$Train;)V"⟩
def RX2 : String := "SeatSwap$SetupReader"
def TX2 : u_T := fun k => match k with
  | 0 => ("SeatSwap$SetupReader", "tape", "LSeatSwap$Tape;", true)
  | 1 => ("SeatSwap$SetupReader", "who", "LSeatSwap$Traveller;", true)
  | 2 => ("SeatSwap$SetupReader", "start", "I", false)
  | 3 => ("SeatSwap$SetupReader", "end", "I", false)
  | 4 => ("SeatSwap$SetupReader", "kind", "I", false)
  | _ => ("SeatSwap$SetupReader", "wrong", "Z", false)
def tyX2 : Nat → FieldType := fun k => match k with
  | 0 => .object "SeatSwap$Tape"
  | 1 => .object "SeatSwap$Traveller"
  | 2 => .int
  | 3 => .int
  | 4 => .int
  | _ => .boolean
abbrev wsX20 : List Cond := u_ws RX2 TX2 6
theorem nmX2 : ∀ a, a < 6 → ∀ b, b < 6 → a ≠ b → (TX2 a).2.1 ≠ (TX2 b).2.1 := by decide +kernel
theorem tyX2_ok : ∀ k, k < 6 → parseFieldDescriptor (TX2 k).2.2.1 = some (tyX2 k) := by decide +kernel
abbrev cX2_init : ByteArray := prog_4_method_1_code
def yX2_init : MethodName := ⟨RX2, "<init>", "()V"⟩
abbrev cX2_kindOf : ByteArray := prog_4_method_2_code
def yX2_kindOf : MethodName := ⟨RX2, "kindOf", "(I)I"⟩
abbrev cX2_begin : ByteArray := prog_4_method_3_code
def yX2_begin : MethodName := ⟨RX2, "begin", "()V"⟩
abbrev cX2_nextToken : ByteArray := prog_4_method_4_code
def yX2_nextToken : MethodName := ⟨RX2, "nextToken", "()V"⟩
abbrev cX2_isSign : ByteArray := prog_4_method_5_code
def yX2_isSign : MethodName := ⟨RX2, "isSign", "(C)Z"⟩
abbrev cX2_isWord : ByteArray := prog_4_method_6_code
def yX2_isWord : MethodName := ⟨RX2, "isWord", "(Ljava/lang/String;)Z"⟩
abbrev cX2_isKeyword : ByteArray := prog_4_method_7_code
def yX2_isKeyword : MethodName := ⟨RX2, "isKeyword", "()Z"⟩
abbrev cX2_isName : ByteArray := prog_4_method_8_code
def yX2_isName : MethodName := ⟨RX2, "isName", "()Z"⟩
abbrev cX2_packedName : ByteArray := prog_4_method_9_code
def yX2_packedName : MethodName := ⟨RX2, "packedName", "()I"⟩
abbrev cX2_number : ByteArray := prog_4_method_10_code
def yX2_number : MethodName := ⟨RX2, "number", "()I"⟩
abbrev cX2_pass : ByteArray := prog_4_method_11_code
def yX2_pass : MethodName := ⟨RX2, "pass", "(Z)V"⟩
abbrev cX2_take : ByteArray := prog_4_method_12_code
def yX2_take : MethodName := ⟨RX2, "take", "(Ljava/lang/String;)V"⟩
abbrev cX2_takeIfThere : ByteArray := prog_4_method_13_code
def yX2_takeIfThere : MethodName := ⟨RX2, "takeIfThere", "(Ljava/lang/String;)Z"⟩
abbrev cX2_takeInt : ByteArray := prog_4_method_14_code
def yX2_takeInt : MethodName := ⟨RX2, "takeInt", "(II)I"⟩
abbrev cX2_takeLike : ByteArray := prog_4_method_15_code
def yX2_takeLike : MethodName := ⟨RX2, "takeLike", "()I"⟩
abbrev cX2_takeFreeSeat : ByteArray := prog_4_method_16_code
def yX2_takeFreeSeat : MethodName := ⟨RX2, "takeFreeSeat", "(LSeatSwap$Train;)I"⟩
abbrev cX2_takeName : ByteArray := prog_4_method_17_code
def yX2_takeName : MethodName := ⟨RX2, "takeName", "()I"⟩
abbrev cX2_tapeIsName : ByteArray := prog_4_method_18_code
def yX2_tapeIsName : MethodName := ⟨RX2, "tapeIsName", "()Z"⟩
abbrev cX2_nameOnTape : ByteArray := prog_4_method_19_code
def yX2_nameOnTape : MethodName := ⟨RX2, "nameOnTape", "()I"⟩
abbrev cX2_readSetup : ByteArray := prog_4_method_20_code
def yX2_readSetup : MethodName := ⟨RX2, "readSetup", "(LSeatSwap$Train;)Z"⟩
abbrev cX2_readTraveller : ByteArray := prog_4_method_21_code
def yX2_readTraveller : MethodName := ⟨RX2, "readTraveller", "(LSeatSwap$Train;)V"⟩
def RX3 : String := "SeatSwap$SetupWriter"
def TX3 : u_T := fun k => match k with
  | 0 => ("SeatSwap$SetupWriter", "length", "I", false)
  | 1 => ("SeatSwap$SetupWriter", "wanted", "I", false)
  | _ => ("SeatSwap$SetupWriter", "found", "I", false)
def tyX3 : Nat → FieldType := fun k => match k with
  | 0 => .int
  | 1 => .int
  | _ => .int
abbrev wsX30 : List Cond := u_ws RX3 TX3 3
theorem nmX3 : ∀ a, a < 3 → ∀ b, b < 3 → a ≠ b → (TX3 a).2.1 ≠ (TX3 b).2.1 := by decide +kernel
theorem tyX3_ok : ∀ k, k < 3 → parseFieldDescriptor (TX3 k).2.2.1 = some (tyX3 k) := by decide +kernel
abbrev cX3_init : ByteArray := prog_5_method_1_code
def yX3_init : MethodName := ⟨RX3, "<init>", "()V"⟩
abbrev cX3_write : ByteArray := prog_5_method_2_code
def yX3_write : MethodName := ⟨RX3, "write", "(LSeatSwap$Train;I)V"⟩
abbrev cX3_putTraveller : ByteArray := prog_5_method_3_code
def yX3_putTraveller : MethodName := ⟨RX3, "putTraveller", "(LSeatSwap$Traveller;)V"⟩
abbrev cX3_putPart : ByteArray := prog_5_method_4_code
def yX3_putPart : MethodName := ⟨RX3, "putPart", "(Ljava/lang/String;II)V"⟩
abbrev cX3_putLike : ByteArray := prog_5_method_5_code
def yX3_putLike : MethodName := ⟨RX3, "putLike", "(Ljava/lang/String;I)V"⟩
abbrev cX3_putNumber : ByteArray := prog_5_method_6_code
def yX3_putNumber : MethodName := ⟨RX3, "putNumber", "(I)V"⟩
abbrev cX3_putText : ByteArray := prog_5_method_7_code
def yX3_putText : MethodName := ⟨RX3, "putText", "(Ljava/lang/String;)V"⟩
abbrev cX3_put : ByteArray := prog_5_method_8_code
def yX3_put : MethodName := ⟨RX3, "put", "(I)V"⟩
def RX4 : String := "SeatSwap$Tape"
def TX4 : u_T := fun k => match k with
  | 0 => ("SeatSwap$Tape", "bytes", "[I", true)
  | _ => ("SeatSwap$Tape", "length", "I", false)
def tyX4 : Nat → FieldType := fun k => match k with
  | 0 => .array .int
  | _ => .int
abbrev wsX40 : List Cond := u_ws RX4 TX4 2
theorem nmX4 : ∀ a, a < 2 → ∀ b, b < 2 → a ≠ b → (TX4 a).2.1 ≠ (TX4 b).2.1 := by decide +kernel
theorem tyX4_ok : ∀ k, k < 2 → parseFieldDescriptor (TX4 k).2.2.1 = some (tyX4 k) := by decide +kernel
abbrev cX4_init : ByteArray := prog_6_method_1_code
def yX4_init : MethodName := ⟨RX4, "<init>", "()V"⟩
abbrev cX4_hasRoom : ByteArray := prog_6_method_2_code
def yX4_hasRoom : MethodName := ⟨RX4, "hasRoom", "()Z"⟩
abbrev cX4_putFour : ByteArray := prog_6_method_3_code
def yX4_putFour : MethodName := ⟨RX4, "putFour", "(I)V"⟩
abbrev cX4_put : ByteArray := prog_6_method_4_code
def yX4_put : MethodName := ⟨RX4, "put", "(I)V"⟩
abbrev cX4_byteAt : ByteArray := prog_6_method_5_code
def yX4_byteAt : MethodName := ⟨RX4, "byteAt", "(I)I"⟩
def RX5 : String := "SeatSwap$Train"
def TX5 : u_T := fun k => match k with
  | 0 => ("SeatSwap$Train", "travellers", "[LSeatSwap$Traveller;", true)
  | 1 => ("SeatSwap$Train", "nobody", "LSeatSwap$Traveller;", true)
  | 2 => ("SeatSwap$Train", "members", "[I", true)
  | 3 => ("SeatSwap$Train", "log", "LSeatSwap$Log;", true)
  | 4 => ("SeatSwap$Train", "rows", "I", false)
  | 5 => ("SeatSwap$Train", "first", "I", false)
  | 6 => ("SeatSwap$Train", "time", "I", false)
  | 7 => ("SeatSwap$Train", "count", "I", false)
  | 8 => ("SeatSwap$Train", "swaps", "I", false)
  | 9 => ("SeatSwap$Train", "moves", "I", false)
  | 10 => ("SeatSwap$Train", "rings", "I", false)
  | 11 => ("SeatSwap$Train", "paid", "I", false)
  | _ => ("SeatSwap$Train", "gone", "I", false)
def tyX5 : Nat → FieldType := fun k => match k with
  | 0 => .array (.object "SeatSwap$Traveller")
  | 1 => .object "SeatSwap$Traveller"
  | 2 => .array .int
  | 3 => .object "SeatSwap$Log"
  | 4 => .int
  | 5 => .int
  | 6 => .int
  | 7 => .int
  | 8 => .int
  | 9 => .int
  | 10 => .int
  | 11 => .int
  | _ => .int
abbrev wsX50 : List Cond := u_ws RX5 TX5 13
theorem nmX5 : ∀ a, a < 13 → ∀ b, b < 13 → a ≠ b → (TX5 a).2.1 ≠ (TX5 b).2.1 := by decide +kernel
theorem tyX5_ok : ∀ k, k < 13 → parseFieldDescriptor (TX5 k).2.2.1 = some (tyX5 k) := by decide +kernel
abbrev cX5_init : ByteArray := prog_7_method_1_code
def yX5_init : MethodName := ⟨RX5, "<init>", "()V"⟩
abbrev cX5_clear : ByteArray := prog_7_method_2_code
def yX5_clear : MethodName := ⟨RX5, "clear", "()V"⟩
abbrev cX5_copyFrom : ByteArray := prog_7_method_3_code
def yX5_copyFrom : MethodName := ⟨RX5, "copyFrom", "(LSeatSwap$Train;)V"⟩
abbrev cX5_traveller : ByteArray := prog_7_method_4_code
def yX5_traveller : MethodName := ⟨RX5, "traveller", "(I)LSeatSwap$Traveller;"⟩
abbrev cX5_seats : ByteArray := prog_7_method_5_code
def yX5_seats : MethodName := ⟨RX5, "seats", "()I"⟩
abbrev cX5_tables : ByteArray := prog_7_method_6_code
def yX5_tables : MethodName := ⟨RX5, "tables", "()I"⟩
abbrev cX5_isSeat : ByteArray := prog_7_method_7_code
def yX5_isSeat : MethodName := ⟨RX5, "isSeat", "(I)Z"⟩
abbrev cX5_isTraveller : ByteArray := prog_7_method_8_code
def yX5_isTraveller : MethodName := ⟨RX5, "isTraveller", "(I)Z"⟩
abbrev cX5_isInRange : ByteArray := prog_7_method_9_code
def yX5_isInRange : MethodName := ⟨RX5, "isInRange", "(II)Z"⟩
abbrev cX5_whoHas : ByteArray := prog_7_method_10_code
def yX5_whoHas : MethodName := ⟨RX5, "whoHas", "(I)I"⟩
abbrev cX5_isFree : ByteArray := prog_7_method_11_code
def yX5_isFree : MethodName := ⟨RX5, "isFree", "(I)Z"⟩
abbrev cX5_allows : ByteArray := prog_7_method_12_code
def yX5_allows : MethodName := ⟨RX5, "allows", "(II)Z"⟩
abbrev cX5_maySit : ByteArray := prog_7_method_13_code
def yX5_maySit : MethodName := ⟨RX5, "maySit", "(II)Z"⟩
abbrev cX5_barredBy : ByteArray := prog_7_method_14_code
def yX5_barredBy : MethodName := ⟨RX5, "barredBy", "(I)I"⟩
abbrev cX5_membersAt : ByteArray := prog_7_method_15_code
def yX5_membersAt : MethodName := ⟨RX5, "membersAt", "(II)I"⟩
abbrev cX5_countAtTable : ByteArray := prog_7_method_16_code
def yX5_countAtTable : MethodName := ⟨RX5, "countAtTable", "(LSeatSwap$Traveller;I)V"⟩
abbrev cX5_admit : ByteArray := prog_7_method_17_code
/-- the name that stands at this place of the Statement's own table -/
def yX5_admit : MethodName := match tables_1_3[7]? with
  | some (Jvm.Cond.instanceMethod y) => y
  | _ => ⟨RX5, "", ""⟩
abbrev cX5_letOff : ByteArray := prog_7_method_18_code
def yX5_letOff : MethodName := ⟨RX5, "letOff", "(I)V"⟩
abbrev cX5_goOn : ByteArray := prog_7_method_19_code
def yX5_goOn : MethodName := ⟨RX5, "goOn", "()V"⟩
abbrev cX5_joyIn : ByteArray := prog_7_method_20_code
def yX5_joyIn : MethodName := ⟨RX5, "joyIn", "(II)I"⟩
abbrev cX5_joyOf : ByteArray := prog_7_method_21_code
def yX5_joyOf : MethodName := ⟨RX5, "joyOf", "(I)I"⟩
abbrev cX5_relativesAt : ByteArray := prog_7_method_22_code
def yX5_relativesAt : MethodName := ⟨RX5, "relativesAt", "(LSeatSwap$Traveller;I)I"⟩
abbrev cX5_looksForward : ByteArray := prog_7_method_23_code
def yX5_looksForward : MethodName := ⟨RX5, "looksForward", "(I)Z"⟩
abbrev cX5_sumOfJoys : ByteArray := prog_7_method_24_code
def yX5_sumOfJoys : MethodName := ⟨RX5, "sumOfJoys", "()I"⟩
abbrev cX5_grumblers : ByteArray := prog_7_method_25_code
def yX5_grumblers : MethodName := ⟨RX5, "grumblers", "()I"⟩
abbrev cX5_placeOf : ByteArray := prog_7_method_26_code
def yX5_placeOf : MethodName := ⟨RX5, "placeOf", "(I)I"⟩
abbrev cX5_whoIsAtPlace : ByteArray := prog_7_method_27_code
def yX5_whoIsAtPlace : MethodName := ⟨RX5, "whoIsAtPlace", "(I)I"⟩
abbrev cX5_isAt : ByteArray := prog_7_method_28_code
def yX5_isAt : MethodName := ⟨RX5, "isAt", "(II)Z"⟩
abbrev cX5_travellersAt : ByteArray := prog_7_method_29_code
def yX5_travellersAt : MethodName := ⟨RX5, "travellersAt", "(I)I"⟩
abbrev cX5_grumblersAt : ByteArray := prog_7_method_30_code
def yX5_grumblersAt : MethodName := ⟨RX5, "grumblersAt", "(I)I"⟩
abbrev cX5_sumOfJoysAt : ByteArray := prog_7_method_31_code
def yX5_sumOfJoysAt : MethodName := ⟨RX5, "sumOfJoysAt", "(I)I"⟩
abbrev cX5_greatestFamilyAt : ByteArray := prog_7_method_32_code
def yX5_greatestFamilyAt : MethodName := ⟨RX5, "greatestFamilyAt", "(I)I"⟩
abbrev cX5_membersOf : ByteArray := prog_7_method_33_code
def yX5_membersOf : MethodName := ⟨RX5, "membersOf", "(I)I"⟩
abbrev cX5_tablesOf : ByteArray := prog_7_method_34_code
def yX5_tablesOf : MethodName := ⟨RX5, "tablesOf", "(I)I"⟩
abbrev cX5_sumOfJoysOf : ByteArray := prog_7_method_35_code
def yX5_sumOfJoysOf : MethodName := ⟨RX5, "sumOfJoysOf", "(I)I"⟩
abbrev cX5_families : ByteArray := prog_7_method_36_code
def yX5_families : MethodName := ⟨RX5, "families", "()I"⟩
abbrev cX5_sumOfSweets : ByteArray := prog_7_method_37_code
def yX5_sumOfSweets : MethodName := ⟨RX5, "sumOfSweets", "()I"⟩
abbrev cX5_sitDown : ByteArray := prog_7_method_38_code
def yX5_sitDown : MethodName := ⟨RX5, "sitDown", "(II)V"⟩
abbrev cX5_exchangeSeats : ByteArray := prog_7_method_39_code
def yX5_exchangeSeats : MethodName := ⟨RX5, "exchangeSeats", "(II)V"⟩
abbrev cX5_passSeats : ByteArray := prog_7_method_40_code
def yX5_passSeats : MethodName := ⟨RX5, "passSeats", "(III)V"⟩
abbrev cX5_riseBySwap : ByteArray := prog_7_method_41_code
def yX5_riseBySwap : MethodName := ⟨RX5, "riseBySwap", "(II)I"⟩
abbrev cX5_sumIfSwapped : ByteArray := prog_7_method_42_code
def yX5_sumIfSwapped : MethodName := ⟨RX5, "sumIfSwapped", "(II)I"⟩
abbrev cX5_swapReason : ByteArray := prog_7_method_43_code
def yX5_swapReason : MethodName := ⟨RX5, "swapReason", "(III)I"⟩
abbrev cX5_doSwap : ByteArray := prog_7_method_44_code
def yX5_doSwap : MethodName := ⟨RX5, "doSwap", "(III)V"⟩
abbrev cX5_moveReason : ByteArray := prog_7_method_45_code
def yX5_moveReason : MethodName := ⟨RX5, "moveReason", "(II)I"⟩
abbrev cX5_doMove : ByteArray := prog_7_method_46_code
def yX5_doMove : MethodName := ⟨RX5, "doMove", "(II)V"⟩
abbrev cX5_ringReason : ByteArray := prog_7_method_47_code
def yX5_ringReason : MethodName := ⟨RX5, "ringReason", "(III)I"⟩
abbrev cX5_riseByRing : ByteArray := prog_7_method_48_code
def yX5_riseByRing : MethodName := ⟨RX5, "riseByRing", "(III)I"⟩
abbrev cX5_doRing : ByteArray := prog_7_method_49_code
def yX5_doRing : MethodName := ⟨RX5, "doRing", "(III)V"⟩
abbrev cX5_risingRings : ByteArray := prog_7_method_50_code
def yX5_risingRings : MethodName := ⟨RX5, "risingRings", "()I"⟩
abbrev cX5_bestSeatFor : ByteArray := prog_7_method_51_code
def yX5_bestSeatFor : MethodName := ⟨RX5, "bestSeatFor", "(I)I"⟩
abbrev cX5_partnerFor : ByteArray := prog_7_method_52_code
def yX5_partnerFor : MethodName := ⟨RX5, "partnerFor", "(I)I"⟩
abbrev cX5_settleOnce : ByteArray := prog_7_method_53_code
def yX5_settleOnce : MethodName := ⟨RX5, "settleOnce", "()Z"⟩
abbrev cX5_planSign : ByteArray := prog_7_method_54_code
def yX5_planSign : MethodName := ⟨RX5, "planSign", "(II)I"⟩
abbrev cX5_seatSign : ByteArray := prog_7_method_55_code
def yX5_seatSign : MethodName := ⟨RX5, "seatSign", "(I)I"⟩
def RX6 : String := "SeatSwap$Traveller"
def TX6 : u_T := fun k => match k with
  | 0 => ("SeatSwap$Traveller", "name", "I", false)
  | 1 => ("SeatSwap$Traveller", "seat", "I", false)
  | 2 => ("SeatSwap$Traveller", "ticket", "I", false)
  | 3 => ("SeatSwap$Traveller", "family", "I", false)
  | 4 => ("SeatSwap$Traveller", "window", "I", false)
  | 5 => ("SeatSwap$Traveller", "ahead", "I", false)
  | 6 => ("SeatSwap$Traveller", "row", "I", false)
  | 7 => ("SeatSwap$Traveller", "pulls", "I", false)
  | 8 => ("SeatSwap$Traveller", "sweets", "I", false)
  | _ => ("SeatSwap$Traveller", "stop", "I", false)
def tyX6 : Nat → FieldType := fun k => match k with
  | 0 => .int
  | 1 => .int
  | 2 => .int
  | 3 => .int
  | 4 => .int
  | 5 => .int
  | 6 => .int
  | 7 => .int
  | 8 => .int
  | _ => .int
abbrev wsX60 : List Cond := u_ws RX6 TX6 10
theorem nmX6 : ∀ a, a < 10 → ∀ b, b < 10 → a ≠ b → (TX6 a).2.1 ≠ (TX6 b).2.1 := by decide +kernel
theorem tyX6_ok : ∀ k, k < 10 → parseFieldDescriptor (TX6 k).2.2.1 = some (tyX6 k) := by decide +kernel
abbrev cX6_init : ByteArray := prog_8_method_1_code
def yX6_init : MethodName := ⟨RX6, "<init>", "()V"⟩
abbrev cX6_clear : ByteArray := prog_8_method_2_code
def yX6_clear : MethodName := ⟨RX6, "clear", "()V"⟩
abbrev cX6_copyFrom : ByteArray := prog_8_method_3_code
def yX6_copyFrom : MethodName := ⟨RX6, "copyFrom", "(LSeatSwap$Traveller;)V"⟩
abbrev cX6_settable : ByteArray := prog_8_method_4_code
def yX6_settable : MethodName := ⟨RX6, "settable", "(I)I"⟩
abbrev cX6_change : ByteArray := prog_8_method_5_code
def yX6_change : MethodName := ⟨RX6, "change", "(II)V"⟩
abbrev cX6_letterAt : ByteArray := prog_8_method_6_code
def yX6_letterAt : MethodName := ⟨RX6, "letterAt", "(I)I"⟩
def RX7 : String := "SeatSwap"
def TX7 : u_T := fun k => match k with
  | 0 => ("SeatSwap", "tape", "LSeatSwap$Tape;", true)
  | 1 => ("SeatSwap", "reader", "LSeatSwap$SetupReader;", true)
  | 2 => ("SeatSwap", "writer", "LSeatSwap$SetupWriter;", true)
  | 3 => ("SeatSwap", "train", "LSeatSwap$Train;", true)
  | 4 => ("SeatSwap", "draft", "LSeatSwap$Train;", true)
  | 5 => ("SeatSwap", "guest", "LSeatSwap$Traveller;", true)
  | 6 => ("SeatSwap", "slots", "[LSeatSwap$Train;", true)
  | 7 => ("SeatSwap", "filled", "[Z", true)
  | 8 => ("SeatSwap", "past", "LSeatSwap$Past;", true)
  | _ => ("SeatSwap", "errorAt", "I", false)
def tyX7 : Nat → FieldType := fun k => match k with
  | 0 => .object "SeatSwap$Tape"
  | 1 => .object "SeatSwap$SetupReader"
  | 2 => .object "SeatSwap$SetupWriter"
  | 3 => .object "SeatSwap$Train"
  | 4 => .object "SeatSwap$Train"
  | 5 => .object "SeatSwap$Traveller"
  | 6 => .array (.object "SeatSwap$Train")
  | 7 => .array .boolean
  | 8 => .object "SeatSwap$Past"
  | _ => .int
abbrev wsX70 : List Cond := u_ws RX7 TX7 10
theorem nmX7 : ∀ a, a < 10 → ∀ b, b < 10 → a ≠ b → (TX7 a).2.1 ≠ (TX7 b).2.1 := by decide +kernel
theorem tyX7_ok : ∀ k, k < 10 → parseFieldDescriptor (TX7 k).2.2.1 = some (tyX7 k) := by decide +kernel
abbrev cX7_init : ByteArray := prog_1_method_1_code
def yX7_init : MethodName := ⟨RX7, "<init>", "()V"⟩
abbrev cX7_append : ByteArray := prog_1_method_2_code
def yX7_append : MethodName := ⟨RX7, "append", "(IIIII)I"⟩
abbrev cX7_truncate : ByteArray := prog_1_method_3_code
def yX7_truncate : MethodName := ⟨RX7, "truncate", "(I)I"⟩
abbrev cX7_load : ByteArray := prog_1_method_4_code
def yX7_load : MethodName := ⟨RX7, "load", "()I"⟩
abbrev cX7_errorPosition : ByteArray := prog_1_method_5_code
def yX7_errorPosition : MethodName := ⟨RX7, "errorPosition", "()I"⟩
abbrev cX7_come : ByteArray := prog_1_method_6_code
def yX7_come : MethodName := ⟨RX7, "come", "(IIIII)I"⟩
abbrev cX7_set : ByteArray := prog_1_method_7_code
def yX7_set : MethodName := ⟨RX7, "set", "(III)I"⟩
abbrev cX7_first : ByteArray := prog_1_method_8_code
def yX7_first : MethodName := ⟨RX7, "first", "(I)I"⟩
abbrev cX7_swap : ByteArray := prog_1_method_9_code
def yX7_swap : MethodName := ⟨RX7, "swap", "(III)I"⟩
abbrev cX7_move : ByteArray := prog_1_method_10_code
def yX7_move : MethodName := ⟨RX7, "move", "(II)I"⟩
abbrev cX7_ring : ByteArray := prog_1_method_11_code
def yX7_ring : MethodName := ⟨RX7, "ring", "(III)I"⟩
abbrev cX7_settle : ByteArray := prog_1_method_12_code
def yX7_settle : MethodName := ⟨RX7, "settle", "()I"⟩
abbrev cX7_station : ByteArray := prog_1_method_13_code
def yX7_station : MethodName := ⟨RX7, "station", "(I)I"⟩
abbrev cX7_keep : ByteArray := prog_1_method_14_code
def yX7_keep : MethodName := ⟨RX7, "keep", "(I)I"⟩
abbrev cX7_restore : ByteArray := prog_1_method_15_code
def yX7_restore : MethodName := ⟨RX7, "restore", "(I)I"⟩
abbrev cX7_undo : ByteArray := prog_1_method_16_code
def yX7_undo : MethodName := ⟨RX7, "undo", "()I"⟩
abbrev cX7_value : ByteArray := prog_1_method_17_code
def yX7_value : MethodName := ⟨RX7, "value", "(I)I"⟩
abbrev cX7_of : ByteArray := prog_1_method_18_code
def yX7_of : MethodName := ⟨RX7, "of", "(II)I"⟩
abbrev cX7_letter : ByteArray := prog_1_method_19_code
def yX7_letter : MethodName := ⟨RX7, "letter", "(II)I"⟩
abbrev cX7_at : ByteArray := prog_1_method_20_code
def yX7_at : MethodName := ⟨RX7, "at", "(I)I"⟩
abbrev cX7_table : ByteArray := prog_1_method_21_code
def yX7_table : MethodName := ⟨RX7, "table", "(II)I"⟩
abbrev cX7_family : ByteArray := prog_1_method_22_code
def yX7_family : MethodName := ⟨RX7, "family", "(II)I"⟩
abbrev cX7_ranked : ByteArray := prog_1_method_23_code
def yX7_ranked : MethodName := ⟨RX7, "ranked", "(I)I"⟩
abbrev cX7_why : ByteArray := prog_1_method_24_code
def yX7_why : MethodName := ⟨RX7, "why", "(III)I"⟩
abbrev cX7_whyMove : ByteArray := prog_1_method_25_code
def yX7_whyMove : MethodName := ⟨RX7, "whyMove", "(II)I"⟩
abbrev cX7_joyAt : ByteArray := prog_1_method_26_code
def yX7_joyAt : MethodName := ⟨RX7, "joyAt", "(II)I"⟩
abbrev cX7_ifSwapped : ByteArray := prog_1_method_27_code
def yX7_ifSwapped : MethodName := ⟨RX7, "ifSwapped", "(III)I"⟩
abbrev cX7_leastPrice : ByteArray := prog_1_method_28_code
def yX7_leastPrice : MethodName := ⟨RX7, "leastPrice", "(II)I"⟩
abbrev cX7_bestSeat : ByteArray := prog_1_method_29_code
def yX7_bestSeat : MethodName := ⟨RX7, "bestSeat", "(I)I"⟩
abbrev cX7_partner : ByteArray := prog_1_method_30_code
def yX7_partner : MethodName := ⟨RX7, "partner", "(I)I"⟩
abbrev cX7_rings : ByteArray := prog_1_method_31_code
def yX7_rings : MethodName := ⟨RX7, "rings", "()I"⟩
abbrev cX7_ifSettled : ByteArray := prog_1_method_32_code
def yX7_ifSettled : MethodName := ⟨RX7, "ifSettled", "(I)I"⟩
abbrev cX7_ifFirst : ByteArray := prog_1_method_33_code
def yX7_ifFirst : MethodName := ⟨RX7, "ifFirst", "(I)I"⟩
abbrev cX7_log : ByteArray := prog_1_method_34_code
def yX7_log : MethodName := ⟨RX7, "log", "(II)I"⟩
abbrev cX7_full : ByteArray := prog_1_method_35_code
def yX7_full : MethodName := ⟨RX7, "full", "()F"⟩
abbrev cX7_meanJoy : ByteArray := prog_1_method_36_code
def yX7_meanJoy : MethodName := ⟨RX7, "meanJoy", "()D"⟩
abbrev cX7_planLength : ByteArray := prog_1_method_37_code
def yX7_planLength : MethodName := ⟨RX7, "planLength", "()I"⟩
abbrev cX7_planByte : ByteArray := prog_1_method_38_code
def yX7_planByte : MethodName := ⟨RX7, "planByte", "(I)I"⟩
abbrev cX7_setupLength : ByteArray := prog_1_method_39_code
def yX7_setupLength : MethodName := ⟨RX7, "setupLength", "()I"⟩
abbrev cX7_setupByte : ByteArray := prog_1_method_40_code
def yX7_setupByte : MethodName := ⟨RX7, "setupByte", "(I)I"⟩
abbrev cX7_isIn : ByteArray := prog_1_method_41_code
def yX7_isIn : MethodName := ⟨RX7, "isIn", "(III)Z"⟩
abbrev cX7_refusal : ByteArray := prog_1_method_42_code
def yX7_refusal : MethodName := ⟨RX7, "refusal", "(I)I"⟩
abbrev cX7_arePair : ByteArray := prog_1_method_43_code
def yX7_arePair : MethodName := ⟨RX7, "arePair", "(II)Z"⟩
abbrev cX7_settleDraft : ByteArray := prog_1_method_44_code
def yX7_settleDraft : MethodName := ⟨RX7, "settleDraft", "()I"⟩
def RX8 : String := "SeatSwapModel"
def TX8 : u_T := fun k => match k with
  | 0 => ("SeatSwapModel", "now", "[I", true)
  | 1 => ("SeatSwapModel", "draft", "[I", true)
  | 2 => ("SeatSwapModel", "spare", "[I", true)
  | 3 => ("SeatSwapModel", "earlier", "[I", true)
  | 4 => ("SeatSwapModel", "slots", "[I", true)
  | 5 => ("SeatSwapModel", "isKept", "[Z", true)
  | 6 => ("SeatSwapModel", "undos", "I", false)
  | 7 => ("SeatSwapModel", "tape", "[I", true)
  | 8 => ("SeatSwapModel", "length", "I", false)
  | 9 => ("SeatSwapModel", "error", "I", false)
  | 10 => ("SeatSwapModel", "thrown", "I", false)
  | 11 => ("SeatSwapModel", "place", "I", false)
  | 12 => ("SeatSwapModel", "begin", "I", false)
  | 13 => ("SeatSwapModel", "kind", "I", false)
  | 14 => ("SeatSwapModel", "value", "I", false)
  | 15 => ("SeatSwapModel", "fails", "Z", false)
  | 16 => ("SeatSwapModel", "out", "[I", true)
  | _ => ("SeatSwapModel", "written", "I", false)
def tyX8 : Nat → FieldType := fun k => match k with
  | 0 => .array .int
  | 1 => .array .int
  | 2 => .array .int
  | 3 => .array .int
  | 4 => .array .int
  | 5 => .array .boolean
  | 6 => .int
  | 7 => .array .int
  | 8 => .int
  | 9 => .int
  | 10 => .int
  | 11 => .int
  | 12 => .int
  | 13 => .int
  | 14 => .int
  | 15 => .boolean
  | 16 => .array .int
  | _ => .int
abbrev wsX80 : List Cond := u_ws RX8 TX8 18
theorem nmX8 : ∀ a, a < 18 → ∀ b, b < 18 → a ≠ b → (TX8 a).2.1 ≠ (TX8 b).2.1 := by decide +kernel
theorem tyX8_ok : ∀ k, k < 18 → parseFieldDescriptor (TX8 k).2.2.1 = some (tyX8 k) := by decide +kernel
abbrev cX8_init : ByteArray := prog_10_method_1_code
def yX8_init : MethodName := ⟨RX8, "<init>", "()V"⟩
abbrev cX8_in : ByteArray := prog_10_method_3_code
def yX8_in : MethodName := ⟨RX8, "in", "(III)Z"⟩
abbrev cX8_layRow : ByteArray := prog_10_method_4_code
def yX8_layRow : MethodName := ⟨RX8, "layRow", "([II[II)V"⟩
abbrev cX8_takesSpare : ByteArray := prog_10_method_5_code
def yX8_takesSpare : MethodName := ⟨RX8, "takesSpare", "()V"⟩
abbrev cX8_numberAt : ByteArray := prog_10_method_6_code
def yX8_numberAt : MethodName := ⟨RX8, "numberAt", "(II)I"⟩
abbrev cX8_isTraveller : ByteArray := prog_10_method_7_code
def yX8_isTraveller : MethodName := ⟨RX8, "isTraveller", "(I)Z"⟩
abbrev cX8_isSeat : ByteArray := prog_10_method_8_code
def yX8_isSeat : MethodName := ⟨RX8, "isSeat", "(I)Z"⟩
abbrev cX8_isPair : ByteArray := prog_10_method_9_code
def yX8_isPair : MethodName := ⟨RX8, "isPair", "(II)Z"⟩
abbrev cX8_isPaid : ByteArray := prog_10_method_10_code
def yX8_isPaid : MethodName := ⟨RX8, "isPaid", "(I)Z"⟩
abbrev cX8_rowOf : ByteArray := prog_10_method_11_code
def yX8_rowOf : MethodName := ⟨RX8, "rowOf", "(I)I"⟩
abbrev cX8_tableOf : ByteArray := prog_10_method_12_code
def yX8_tableOf : MethodName := ⟨RX8, "tableOf", "(I)I"⟩
abbrev cX8_isWindow : ByteArray := prog_10_method_13_code
def yX8_isWindow : MethodName := ⟨RX8, "isWindow", "(I)Z"⟩
abbrev cX8_isForward : ByteArray := prog_10_method_14_code
def yX8_isForward : MethodName := ⟨RX8, "isForward", "(I)Z"⟩
abbrev cX8_tablesOf : ByteArray := prog_10_method_15_code
def yX8_tablesOf : MethodName := ⟨RX8, "tablesOf", "([I)I"⟩
abbrev cX8_whoHas : ByteArray := prog_10_method_16_code
def yX8_whoHas : MethodName := ⟨RX8, "whoHas", "([II)I"⟩
abbrev cX8_mayUse : ByteArray := prog_10_method_17_code
def yX8_mayUse : MethodName := ⟨RX8, "mayUse", "(III)Z"⟩
abbrev cX8_maySit : ByteArray := prog_10_method_18_code
def yX8_maySit : MethodName := ⟨RX8, "maySit", "([III)Z"⟩
abbrev cX8_kinAt : ByteArray := prog_10_method_19_code
def yX8_kinAt : MethodName := ⟨RX8, "kinAt", "([III)I"⟩
abbrev cX8_joyIn : ByteArray := prog_10_method_20_code
def yX8_joyIn : MethodName := ⟨RX8, "joyIn", "([III)I"⟩
abbrev cX8_joyOf : ByteArray := prog_10_method_21_code
def yX8_joyOf : MethodName := ⟨RX8, "joyOf", "([II)I"⟩
abbrev cX8_joyAll : ByteArray := prog_10_method_22_code
def yX8_joyAll : MethodName := ⟨RX8, "joyAll", "([I)I"⟩
abbrev cX8_grumblers : ByteArray := prog_10_method_23_code
def yX8_grumblers : MethodName := ⟨RX8, "grumblers", "([I)I"⟩
abbrev cX8_exchanges : ByteArray := prog_10_method_24_code
def yX8_exchanges : MethodName := ⟨RX8, "exchanges", "([III)V"⟩
abbrev cX8_turns : ByteArray := prog_10_method_25_code
def yX8_turns : MethodName := ⟨RX8, "turns", "([IIII)V"⟩
abbrev cX8_riseBySwap : ByteArray := prog_10_method_26_code
def yX8_riseBySwap : MethodName := ⟨RX8, "riseBySwap", "([IIII)I"⟩
abbrev cX8_whySwapped : ByteArray := prog_10_method_27_code
def yX8_whySwapped : MethodName := ⟨RX8, "whySwapped", "([IIII)I"⟩
abbrev cX8_whyMoved : ByteArray := prog_10_method_28_code
def yX8_whyMoved : MethodName := ⟨RX8, "whyMoved", "([III)I"⟩
abbrev cX8_riseByRing : ByteArray := prog_10_method_29_code
def yX8_riseByRing : MethodName := ⟨RX8, "riseByRing", "([IIIII)I"⟩
abbrev cX8_whyRing : ByteArray := prog_10_method_30_code
def yX8_whyRing : MethodName := ⟨RX8, "whyRing", "([IIII)I"⟩
abbrev cX8_riseOfRing : ByteArray := prog_10_method_31_code
def yX8_riseOfRing : MethodName := ⟨RX8, "riseOfRing", "([IIII)I"⟩
abbrev cX8_riseOfAll : ByteArray := prog_10_method_32_code
def yX8_riseOfAll : MethodName := ⟨RX8, "riseOfAll", "([III)I"⟩
abbrev cX8_bestSwap : ByteArray := prog_10_method_33_code
def yX8_bestSwap : MethodName := ⟨RX8, "bestSwap", "([I)I"⟩
abbrev cX8_settles : ByteArray := prog_10_method_34_code
def yX8_settles : MethodName := ⟨RX8, "settles", "([I)I"⟩
abbrev cX8_append : ByteArray := prog_10_method_35_code
def yX8_append : MethodName := ⟨RX8, "append", "(IIIII)I"⟩
abbrev cX8_truncate : ByteArray := prog_10_method_36_code
def yX8_truncate : MethodName := ⟨RX8, "truncate", "(I)I"⟩
abbrev cX8_errorPosition : ByteArray := prog_10_method_37_code
def yX8_errorPosition : MethodName := ⟨RX8, "errorPosition", "()I"⟩
abbrev cX8_isSmall : ByteArray := prog_10_method_38_code
def yX8_isSmall : MethodName := ⟨RX8, "isSmall", "(I)Z"⟩
abbrev cX8_isDigit : ByteArray := prog_10_method_39_code
def yX8_isDigit : MethodName := ⟨RX8, "isDigit", "(I)Z"⟩
abbrev cX8_next : ByteArray := prog_10_method_40_code
def yX8_next : MethodName := ⟨RX8, "next", "()V"⟩
abbrev cX8_nextWord : ByteArray := prog_10_method_41_code
def yX8_nextWord : MethodName := ⟨RX8, "nextWord", "()V"⟩
abbrev cX8_nextNumber : ByteArray := prog_10_method_42_code
def yX8_nextNumber : MethodName := ⟨RX8, "nextNumber", "()V"⟩
abbrev cX8_is : ByteArray := prog_10_method_43_code
def yX8_is : MethodName := ⟨RX8, "is", "(I)Z"⟩
abbrev cX8_isKeyword : ByteArray := prog_10_method_44_code
def yX8_isKeyword : MethodName := ⟨RX8, "isKeyword", "(I)Z"⟩
abbrev cX8_takes : ByteArray := prog_10_method_45_code
def yX8_takes : MethodName := ⟨RX8, "takes", "(Z)Z"⟩
abbrev cX8_takesNumber : ByteArray := prog_10_method_46_code
def yX8_takesNumber : MethodName := ⟨RX8, "takesNumber", "(II)I"⟩
abbrev cX8_takesWord : ByteArray := prog_10_method_47_code
def yX8_takesWord : MethodName := ⟨RX8, "takesWord", "(I)Z"⟩
abbrev cX8_takesLike : ByteArray := prog_10_method_48_code
def yX8_takesLike : MethodName := ⟨RX8, "takesLike", "()I"⟩
abbrev cX8_isName : ByteArray := prog_10_method_49_code
def yX8_isName : MethodName := ⟨RX8, "isName", "(I)Z"⟩
abbrev cX8_nameSize : ByteArray := prog_10_method_50_code
def yX8_nameSize : MethodName := ⟨RX8, "nameSize", "(I)I"⟩
abbrev cX8_letterOf : ByteArray := prog_10_method_51_code
def yX8_letterOf : MethodName := ⟨RX8, "letterOf", "(II)I"⟩
abbrev cX8_starts : ByteArray := prog_10_method_52_code
def yX8_starts : MethodName := ⟨RX8, "starts", "([III)V"⟩
abbrev cX8_readSeat : ByteArray := prog_10_method_53_code
def yX8_readSeat : MethodName := ⟨RX8, "readSeat", "()V"⟩
abbrev cX8_load : ByteArray := prog_10_method_54_code
def yX8_load : MethodName := ⟨RX8, "load", "()I"⟩
abbrev cX8_tells : ByteArray := prog_10_method_55_code
def yX8_tells : MethodName := ⟨RX8, "tells", "(III)V"⟩
abbrev cX8_keepForUndo : ByteArray := prog_10_method_56_code
def yX8_keepForUndo : MethodName := ⟨RX8, "keepForUndo", "()V"⟩
abbrev cX8_refused : ByteArray := prog_10_method_57_code
def yX8_refused : MethodName := ⟨RX8, "refused", "(I)I"⟩
abbrev cX8_tapeName : ByteArray := prog_10_method_58_code
def yX8_tapeName : MethodName := ⟨RX8, "tapeName", "()I"⟩
abbrev cX8_come : ByteArray := prog_10_method_59_code
def yX8_come : MethodName := ⟨RX8, "come", "(IIIII)I"⟩
abbrev cX8_fieldOf : ByteArray := prog_10_method_60_code
def yX8_fieldOf : MethodName := ⟨RX8, "fieldOf", "(I)I"⟩
abbrev cX8_isNumber : ByteArray := prog_10_method_61_code
def yX8_isNumber : MethodName := ⟨RX8, "isNumber", "(II)Z"⟩
abbrev cX8_set : ByteArray := prog_10_method_62_code
def yX8_set : MethodName := ⟨RX8, "set", "(III)I"⟩
abbrev cX8_barredBy : ByteArray := prog_10_method_63_code
def yX8_barredBy : MethodName := ⟨RX8, "barredBy", "([II)I"⟩
abbrev cX8_first : ByteArray := prog_10_method_64_code
def yX8_first : MethodName := ⟨RX8, "first", "(I)I"⟩
abbrev cX8_swap : ByteArray := prog_10_method_65_code
def yX8_swap : MethodName := ⟨RX8, "swap", "(III)I"⟩
abbrev cX8_move : ByteArray := prog_10_method_66_code
def yX8_move : MethodName := ⟨RX8, "move", "(II)I"⟩
abbrev cX8_ring : ByteArray := prog_10_method_67_code
def yX8_ring : MethodName := ⟨RX8, "ring", "(III)I"⟩
abbrev cX8_settle : ByteArray := prog_10_method_68_code
def yX8_settle : MethodName := ⟨RX8, "settle", "()I"⟩
abbrev cX8_getsOff : ByteArray := prog_10_method_69_code
def yX8_getsOff : MethodName := ⟨RX8, "getsOff", "(I)V"⟩
abbrev cX8_stops : ByteArray := prog_10_method_70_code
def yX8_stops : MethodName := ⟨RX8, "stops", "()V"⟩
abbrev cX8_station : ByteArray := prog_10_method_71_code
def yX8_station : MethodName := ⟨RX8, "station", "(I)I"⟩
abbrev cX8_keep : ByteArray := prog_10_method_72_code
def yX8_keep : MethodName := ⟨RX8, "keep", "(I)I"⟩
abbrev cX8_restore : ByteArray := prog_10_method_73_code
def yX8_restore : MethodName := ⟨RX8, "restore", "(I)I"⟩
abbrev cX8_undo : ByteArray := prog_10_method_74_code
def yX8_undo : MethodName := ⟨RX8, "undo", "()I"⟩
abbrev cX8_sweetsAll : ByteArray := prog_10_method_75_code
def yX8_sweetsAll : MethodName := ⟨RX8, "sweetsAll", "()I"⟩
abbrev cX8_membersOf : ByteArray := prog_10_method_76_code
def yX8_membersOf : MethodName := ⟨RX8, "membersOf", "(I)I"⟩
abbrev cX8_familiesAll : ByteArray := prog_10_method_77_code
def yX8_familiesAll : MethodName := ⟨RX8, "familiesAll", "()I"⟩
abbrev cX8_value : ByteArray := prog_10_method_78_code
def yX8_value : MethodName := ⟨RX8, "value", "(I)I"⟩
abbrev cX8_rankOf : ByteArray := prog_10_method_79_code
def yX8_rankOf : MethodName := ⟨RX8, "rankOf", "(I)I"⟩
abbrev cX8_of : ByteArray := prog_10_method_80_code
def yX8_of : MethodName := ⟨RX8, "of", "(II)I"⟩
abbrev cX8_letter : ByteArray := prog_10_method_81_code
def yX8_letter : MethodName := ⟨RX8, "letter", "(II)I"⟩
abbrev cX8_at : ByteArray := prog_10_method_82_code
def yX8_at : MethodName := ⟨RX8, "at", "(I)I"⟩
abbrev cX8_isAtTable : ByteArray := prog_10_method_83_code
def yX8_isAtTable : MethodName := ⟨RX8, "isAtTable", "(II)Z"⟩
abbrev cX8_membersAt : ByteArray := prog_10_method_84_code
def yX8_membersAt : MethodName := ⟨RX8, "membersAt", "(II)I"⟩
abbrev cX8_familyAt : ByteArray := prog_10_method_85_code
def yX8_familyAt : MethodName := ⟨RX8, "familyAt", "(I)I"⟩
abbrev cX8_table : ByteArray := prog_10_method_86_code
def yX8_table : MethodName := ⟨RX8, "table", "(II)I"⟩
abbrev cX8_tablesOfFamily : ByteArray := prog_10_method_87_code
def yX8_tablesOfFamily : MethodName := ⟨RX8, "tablesOfFamily", "(I)I"⟩
abbrev cX8_joyOfFamily : ByteArray := prog_10_method_88_code
def yX8_joyOfFamily : MethodName := ⟨RX8, "joyOfFamily", "(I)I"⟩
abbrev cX8_family : ByteArray := prog_10_method_89_code
def yX8_family : MethodName := ⟨RX8, "family", "(II)I"⟩
abbrev cX8_ranked : ByteArray := prog_10_method_90_code
def yX8_ranked : MethodName := ⟨RX8, "ranked", "(I)I"⟩
abbrev cX8_why : ByteArray := prog_10_method_91_code
def yX8_why : MethodName := ⟨RX8, "why", "(III)I"⟩
abbrev cX8_whyMove : ByteArray := prog_10_method_92_code
def yX8_whyMove : MethodName := ⟨RX8, "whyMove", "(II)I"⟩
abbrev cX8_joyAt : ByteArray := prog_10_method_93_code
def yX8_joyAt : MethodName := ⟨RX8, "joyAt", "(II)I"⟩
abbrev cX8_ifSwapped : ByteArray := prog_10_method_94_code
def yX8_ifSwapped : MethodName := ⟨RX8, "ifSwapped", "(III)I"⟩
abbrev cX8_leastPrice : ByteArray := prog_10_method_95_code
def yX8_leastPrice : MethodName := ⟨RX8, "leastPrice", "(II)I"⟩
abbrev cX8_bestSeat : ByteArray := prog_10_method_96_code
def yX8_bestSeat : MethodName := ⟨RX8, "bestSeat", "(I)I"⟩
abbrev cX8_partner : ByteArray := prog_10_method_97_code
def yX8_partner : MethodName := ⟨RX8, "partner", "(I)I"⟩
abbrev cX8_rings : ByteArray := prog_10_method_98_code
def yX8_rings : MethodName := ⟨RX8, "rings", "()I"⟩
abbrev cX8_ifSettled : ByteArray := prog_10_method_99_code
def yX8_ifSettled : MethodName := ⟨RX8, "ifSettled", "(I)I"⟩
abbrev cX8_ifFirst : ByteArray := prog_10_method_100_code
def yX8_ifFirst : MethodName := ⟨RX8, "ifFirst", "(I)I"⟩
abbrev cX8_log : ByteArray := prog_10_method_101_code
def yX8_log : MethodName := ⟨RX8, "log", "(II)I"⟩
abbrev cX8_full : ByteArray := prog_10_method_102_code
def yX8_full : MethodName := ⟨RX8, "full", "()F"⟩
abbrev cX8_meanJoy : ByteArray := prog_10_method_103_code
def yX8_meanJoy : MethodName := ⟨RX8, "meanJoy", "()D"⟩
abbrev cX8_puts : ByteArray := prog_10_method_104_code
def yX8_puts : MethodName := ⟨RX8, "puts", "(I)V"⟩
abbrev cX8_writtenAt : ByteArray := prog_10_method_105_code
def yX8_writtenAt : MethodName := ⟨RX8, "writtenAt", "(I)I"⟩
abbrev cX8_layPlan : ByteArray := prog_10_method_106_code
def yX8_layPlan : MethodName := ⟨RX8, "layPlan", "()V"⟩
abbrev cX8_putsSeat : ByteArray := prog_10_method_107_code
def yX8_putsSeat : MethodName := ⟨RX8, "putsSeat", "(I)V"⟩
abbrev cX8_planLength : ByteArray := prog_10_method_108_code
def yX8_planLength : MethodName := ⟨RX8, "planLength", "()I"⟩
abbrev cX8_planByte : ByteArray := prog_10_method_109_code
def yX8_planByte : MethodName := ⟨RX8, "planByte", "(I)I"⟩
abbrev cX8_putsNumber : ByteArray := prog_10_method_110_code
def yX8_putsNumber : MethodName := ⟨RX8, "putsNumber", "(I)V"⟩
abbrev cX8_putsNext : ByteArray := prog_10_method_111_code
def yX8_putsNext : MethodName := ⟨RX8, "putsNext", "(I)V"⟩
abbrev cX8_putsWord : ByteArray := prog_10_method_112_code
def yX8_putsWord : MethodName := ⟨RX8, "putsWord", "(I)V"⟩
abbrev cX8_putsPart : ByteArray := prog_10_method_113_code
def yX8_putsPart : MethodName := ⟨RX8, "putsPart", "(II)V"⟩
abbrev cX8_putsLike : ByteArray := prog_10_method_114_code
def yX8_putsLike : MethodName := ⟨RX8, "putsLike", "(II)V"⟩
abbrev cX8_putsTraveller : ByteArray := prog_10_method_115_code
def yX8_putsTraveller : MethodName := ⟨RX8, "putsTraveller", "(I)V"⟩
abbrev cX8_putsSweets : ByteArray := prog_10_method_116_code
def yX8_putsSweets : MethodName := ⟨RX8, "putsSweets", "(I)V"⟩
abbrev cX8_laySetup : ByteArray := prog_10_method_117_code
def yX8_laySetup : MethodName := ⟨RX8, "laySetup", "()V"⟩
abbrev cX8_setupLength : ByteArray := prog_10_method_118_code
def yX8_setupLength : MethodName := ⟨RX8, "setupLength", "()I"⟩
abbrev cX8_setupByte : ByteArray := prog_10_method_119_code
def yX8_setupByte : MethodName := ⟨RX8, "setupByte", "(I)I"⟩
def RJ9 : String := "java/lang/Math"
def TJ9 : u_T := fun k => match k with
  | _ => ("", "", "", false)
def tyJ9 : Nat → FieldType := fun k => match k with
  | _ => .int
abbrev wsJ90 : List Cond := u_ws RJ9 TJ9 0
theorem nmJ9 : ∀ a, a < 0 → ∀ b, b < 0 → a ≠ b → (TJ9 a).2.1 ≠ (TJ9 b).2.1 := by decide +kernel
theorem tyJ9_ok : ∀ k, k < 0 → parseFieldDescriptor (TJ9 k).2.2.1 = some (tyJ9 k) := by decide +kernel
abbrev cJ9_floorMod_7cf53 : ByteArray := prog_11_method_50_code
def yJ9_floorMod_7cf53 : MethodName := ⟨RJ9, "floorMod", "(II)I"⟩
abbrev cJ9_abs_0f7a4 : ByteArray := prog_11_method_59_code
def yJ9_abs_0f7a4 : MethodName := ⟨RJ9, "abs", "(I)I"⟩
def RJ0 : String := "java/lang/String"
def TJ0 : u_T := fun k => match k with
  | _ => ("", "", "", false)
def tyJ0 : Nat → FieldType := fun k => match k with
  | _ => .int
abbrev wsJ00 : List Cond := u_ws RJ0 TJ0 0
theorem nmJ0 : ∀ a, a < 0 → ∀ b, b < 0 → a ≠ b → (TJ0 a).2.1 ≠ (TJ0 b).2.1 := by decide +kernel
theorem tyJ0_ok : ∀ k, k < 0 → parseFieldDescriptor (TJ0 k).2.2.1 = some (tyJ0 k) := by decide +kernel
abbrev cJ0_length_8abf5 : ByteArray := prog_12_method_54_code
def yJ0_length_8abf5 : MethodName := ⟨RJ0, "length", "()I"⟩
abbrev cJ0_charAt_5068e : ByteArray := prog_12_method_56_code
def yJ0_charAt_5068e : MethodName := ⟨RJ0, "charAt", "(I)C"⟩
abbrev cJ0_coder_7d493 : ByteArray := prog_12_method_152_code
def yJ0_coder_7d493 : MethodName := ⟨RJ0, "coder", "()B"⟩
abbrev cJ0_isLatin1_aae02 : ByteArray := prog_12_method_154_code
def yJ0_isLatin1_aae02 : MethodName := ⟨RJ0, "isLatin1", "()Z"⟩
abbrev cJ0_checkIndex_df160 : ByteArray := prog_12_method_155_code
def yJ0_checkIndex_df160 : MethodName := ⟨RJ0, "checkIndex", "(II)V"⟩
def RJ1 : String := "java/lang/StringLatin1"
def TJ1 : u_T := fun k => match k with
  | _ => ("", "", "", false)
def tyJ1 : Nat → FieldType := fun k => match k with
  | _ => .int
abbrev wsJ10 : List Cond := u_ws RJ1 TJ1 0
theorem nmJ1 : ∀ a, a < 0 → ∀ b, b < 0 → a ≠ b → (TJ1 a).2.1 ≠ (TJ1 b).2.1 := by decide +kernel
theorem tyJ1_ok : ∀ k, k < 0 → parseFieldDescriptor (TJ1 k).2.2.1 = some (tyJ1 k) := by decide +kernel
abbrev cJ1_charAt_3b067 : ByteArray := prog_13_method_2_code
def yJ1_charAt_3b067 : MethodName := ⟨RJ1, "charAt", "([BI)C"⟩
def RJ2 : String := "java/lang/StringUTF16"
def TJ2 : u_T := fun k => match k with
  | _ => ("", "", "", false)
def tyJ2 : Nat → FieldType := fun k => match k with
  | _ => .int
abbrev wsJ20 : List Cond := u_ws RJ2 TJ2 0
theorem nmJ2 : ∀ a, a < 0 → ∀ b, b < 0 → a ≠ b → (TJ2 a).2.1 ≠ (TJ2 b).2.1 := by decide +kernel
theorem tyJ2_ok : ∀ k, k < 0 → parseFieldDescriptor (TJ2 k).2.2.1 = some (tyJ2 k) := by decide +kernel
abbrev cJ2_getChar_3b067 : ByteArray := prog_14_method_5_code
def yJ2_getChar_3b067 : MethodName := ⟨RJ2, "getChar", "([BI)C"⟩
abbrev cJ2_length_9d52b : ByteArray := prog_14_method_6_code
def yJ2_length_9d52b : MethodName := ⟨RJ2, "length", "([B)I"⟩
abbrev cJ2_charAt_3b067 : ByteArray := prog_14_method_83_code
def yJ2_charAt_3b067 : MethodName := ⟨RJ2, "charAt", "([BI)C"⟩
abbrev cJ2_checkIndex_2214a : ByteArray := prog_14_method_91_code
def yJ2_checkIndex_2214a : MethodName := ⟨RJ2, "checkIndex", "(I[B)V"⟩
def RJ3 : String := "jdk/internal/util/Preconditions"
def TJ3 : u_T := fun k => match k with
  | _ => ("", "", "", false)
def tyJ3 : Nat → FieldType := fun k => match k with
  | _ => .int
abbrev wsJ30 : List Cond := u_ws RJ3 TJ3 0
theorem nmJ3 : ∀ a, a < 0 → ∀ b, b < 0 → a ≠ b → (TJ3 a).2.1 ≠ (TJ3 b).2.1 := by decide +kernel
theorem tyJ3_ok : ∀ k, k < 0 → parseFieldDescriptor (TJ3 k).2.2.1 = some (tyJ3 k) := by decide +kernel
abbrev cJ3_checkIndex_8e157 : ByteArray := prog_15_method_11_code
def yJ3_checkIndex_8e157 : MethodName := ⟨RJ3, "checkIndex", "(IILjava/util/function/BiFunction;)I"⟩
def RL : String := "SeatSwapLaw"
abbrev cL_law : ByteArray := code
def yL_law : MethodName := ⟨RL, "law", "([I)Z"⟩
abbrev vwCl : List vw_C := [(RX0, TX0, 3), (RX1, TX1, 3), (RX2, TX2, 6), (RX3, TX3, 3), (RX4, TX4, 2), (RX5, TX5, 13), (RX6, TX6, 10), (RX7, TX7, 10), (RX8, TX8, 18)]
end
section
/-! THE PROGRAM AS TABLES: printed by wip/gen/mk.py out of the task's own listing -/
def jv_nth {α : Type} (l : List α) (n : Nat) : Option α := match l, n with
  | [], _ => none
  | a :: _, 0 => some a
  | _ :: l, n + 1 => jv_nth l n
def jv_as {α : Type} (l : List (Nat × α)) (n : Nat) : Option α := match l with
  | [] => none
  | a :: l => if a.1 = n then some a.2 else jv_as l n
abbrev jv_I : Type := Option (Instr × Nat)
/-- X0_init -/
def jv_c0 : List (List jv_I) := [[some (.aload_n 0, 1), some (.invokespecial 3, 3), none, none, some (.aload_n 0, 1), some (.bipush 120, 2), none, some (.newarray .int, 2), none, some (.putfield 11, 3), none, none, some (.return_, 1)]]
/-- X0_clear -/
def jv_c1 : List (List jv_I) := [[some (.aload_n 0, 1), some (.iconst 0, 1), some (.putfield 15, 3), none, none, some (.aload_n 0, 1), some (.iconst 0, 1), some (.putfield 19, 3), none, none, some (.return_, 1)]]
/-- X0_copyFrom -/
def jv_c2 : List (List jv_I) := [[some (.iconst 0, 1), some (.istore_n 2, 1), some (.iload_n 2, 1), some (.aload_n 0, 1), some (.getfield 11, 3), none, none, some (.arraylength, 1), some (.if_icmp .ge 30, 3), none, none, some (.iload_n 2, 1), some (.aload_n 1, 1), some (.getfield 11, 3), none, none], [some (.arraylength, 1), some (.if_icmp .ge 21, 3), none, none, some (.aload_n 0, 1), some (.getfield 11, 3), none, none, some (.iload_n 2, 1), some (.aload_n 1, 1), some (.getfield 11, 3), none, none, some (.iload_n 2, 1), some (.iaload, 1), some (.iastore, 1)], [some (.iinc 2 1, 3), none, none, some (.goto (-33), 3), none, none, some (.aload_n 0, 1), some (.aload_n 1, 1), some (.getfield 15, 3), none, none, some (.putfield 15, 3), none, none, some (.aload_n 0, 1), some (.aload_n 1, 1)], [some (.getfield 19, 3), none, none, some (.putfield 19, 3), none, none, some (.return_, 1)]]
/-- X0_indexOf -/
def jv_c3 : List (List jv_I) := [[some (.aload_n 0, 1), some (.getfield 15, 3), none, none, some (.iload_n 1, 1), some (.iadd, 1), some (.bipush 40, 2), none, some (.invokestatic 22, 3), none, none, some (.iconst 3, 1), some (.imul, 1), some (.iload_n 2, 1), some (.iadd, 1), some (.ireturn, 1)]]
/-- X0_put -/
def jv_c4 : List (List jv_I) := [[some (.iload_n 1, 1), some (.ifCond .lt 19, 3), none, none, some (.iload_n 1, 1), some (.aload_n 0, 1), some (.getfield 11, 3), none, none, some (.arraylength, 1), some (.if_icmp .ge 10, 3), none, none, some (.aload_n 0, 1), some (.getfield 11, 3), none], [none, some (.iload_n 1, 1), some (.iload_n 2, 1), some (.iastore, 1), some (.return_, 1)]]
/-- X0_add -/
def jv_c5 : List (List jv_I) := [[some (.aload_n 0, 1), some (.aload_n 0, 1), some (.aload_n 0, 1), some (.getfield 19, 3), none, none, some (.iconst 0, 1), some (.invokevirtual 28, 3), none, none, some (.iload_n 1, 1), some (.invokevirtual 31, 3), none, none, some (.aload_n 0, 1), some (.aload_n 0, 1)], [some (.aload_n 0, 1), some (.getfield 19, 3), none, none, some (.iconst 1, 1), some (.invokevirtual 28, 3), none, none, some (.iload_n 2, 1), some (.invokevirtual 31, 3), none, none, some (.aload_n 0, 1), some (.aload_n 0, 1), some (.aload_n 0, 1), some (.getfield 19, 3)], [none, none, some (.iconst 2, 1), some (.invokevirtual 28, 3), none, none, some (.iload_n 3, 1), some (.invokevirtual 31, 3), none, none, some (.aload_n 0, 1), some (.getfield 19, 3), none, none, some (.bipush 40, 2), none], [some (.if_icmp .ge 16, 3), none, none, some (.aload_n 0, 1), some (.dup, 1), some (.getfield 19, 3), none, none, some (.iconst 1, 1), some (.iadd, 1), some (.putfield 19, 3), none, none, some (.goto 16, 3), none, none], [some (.aload_n 0, 1), some (.aload_n 0, 1), some (.getfield 15, 3), none, none, some (.iconst 1, 1), some (.iadd, 1), some (.bipush 40, 2), none, some (.irem, 1), some (.putfield 15, 3), none, none, some (.return_, 1)]]
/-- X0_part -/
def jv_c6 : List (List jv_I) := [[some (.iload_n 1, 1), some (.aload_n 0, 1), some (.getfield 19, 3), none, none, some (.if_icmp .lt 6, 3), none, none, some (.bipush (-2), 2), none, some (.ireturn, 1), some (.aload_n 0, 1), some (.iload_n 1, 1), some (.iload_n 2, 1), some (.invokevirtual 28, 3), none], [none, some (.istore_n 3, 1), some (.iload_n 3, 1), some (.ifCond .lt 21, 3), none, none, some (.iload_n 3, 1), some (.aload_n 0, 1), some (.getfield 11, 3), none, none, some (.arraylength, 1), some (.if_icmp .ge 12, 3), none, none, some (.aload_n 0, 1)], [some (.getfield 11, 3), none, none, some (.iload_n 3, 1), some (.iaload, 1), some (.goto 5, 3), none, none, some (.bipush (-2), 2), none, some (.ireturn, 1)]]
/-- X1_init -/
def jv_c7 : List (List jv_I) := [[some (.aload_n 0, 1), some (.invokespecial 1, 3), none, none, some (.aload_n 0, 1), some (.bipush 8, 2), none, some (.anewarray 9, 3), none, none, some (.putfield 11, 3), none, none, some (.iconst 0, 1), some (.istore_n 1, 1), some (.iload_n 1, 1)], [some (.bipush 8, 2), none, some (.if_icmp .ge 22, 3), none, none, some (.aload_n 0, 1), some (.getfield 11, 3), none, none, some (.iload_n 1, 1), some (.new 9, 3), none, none, some (.dup, 1), some (.invokespecial 15, 3), none], [none, some (.aastore, 1), some (.iinc 1 1, 3), none, none, some (.goto (-22), 3), none, none, some (.return_, 1)]]
/-- X1_forget -/
def jv_c8 : List (List jv_I) := [[some (.aload_n 0, 1), some (.iconst 0, 1), some (.putfield 16, 3), none, none, some (.return_, 1)]]
/-- X1_trainAt -/
def jv_c9 : List (List jv_I) := [[some (.aload_n 0, 1), some (.getfield 11, 3), none, none, some (.aload_n 0, 1), some (.getfield 20, 3), none, none, some (.iload_n 1, 1), some (.iadd, 1), some (.bipush 8, 2), none, some (.invokestatic 23, 3), none, none, some (.aaload, 1)], [some (.areturn, 1)]]
/-- X1_remember -/
def jv_c10 : List (List jv_I) := [[some (.aload_n 0, 1), some (.aload_n 0, 1), some (.getfield 16, 3), none, none, some (.invokevirtual 29, 3), none, none, some (.aload_n 1, 1), some (.invokevirtual 33, 3), none, none, some (.aload_n 0, 1), some (.getfield 16, 3), none, none], [some (.bipush 8, 2), none, some (.if_icmp .ge 16, 3), none, none, some (.aload_n 0, 1), some (.dup, 1), some (.getfield 16, 3), none, none, some (.iconst 1, 1), some (.iadd, 1), some (.putfield 16, 3), none, none, some (.goto 16, 3)], [none, none, some (.aload_n 0, 1), some (.aload_n 0, 1), some (.getfield 20, 3), none, none, some (.iconst 1, 1), some (.iadd, 1), some (.bipush 8, 2), none, some (.irem, 1), some (.putfield 20, 3), none, none, some (.return_, 1)]]
/-- X1_bringBack -/
def jv_c11 : List (List jv_I) := [[some (.aload_n 0, 1), some (.getfield 16, 3), none, none, some (.ifCond .le 25, 3), none, none, some (.aload_n 0, 1), some (.dup, 1), some (.getfield 16, 3), none, none, some (.iconst 1, 1), some (.isub, 1), some (.putfield 16, 3), none], [none, some (.aload_n 1, 1), some (.aload_n 0, 1), some (.aload_n 0, 1), some (.getfield 16, 3), none, none, some (.invokevirtual 29, 3), none, none, some (.invokevirtual 33, 3), none, none, some (.return_, 1)]]
/-- X2_init -/
def jv_c12 : List (List jv_I) := [[some (.aload_n 0, 1), some (.invokespecial 3, 3), none, none, some (.aload_n 0, 1), some (.new 9, 3), none, none, some (.dup, 1), some (.invokespecial 11, 3), none, none, some (.putfield 12, 3), none, none, some (.aload_n 0, 1)], [some (.new 18, 3), none, none, some (.dup, 1), some (.invokespecial 20, 3), none, none, some (.putfield 21, 3), none, none, some (.return_, 1)]]
/-- X2_kindOf -/
def jv_c13 : List (List jv_I) := [[some (.iload_n 0, 1), some (.bipush 97, 2), none, some (.if_icmp .lt 11, 3), none, none, some (.iload_n 0, 1), some (.bipush 122, 2), none, some (.if_icmp .gt 5, 3), none, none, some (.iconst 2, 1), some (.ireturn, 1), some (.iload_n 0, 1), some (.bipush 48, 2)], [none, some (.if_icmp .lt 11, 3), none, none, some (.iload_n 0, 1), some (.bipush 57, 2), none, some (.if_icmp .gt 5, 3), none, none, some (.iconst 3, 1), some (.ireturn, 1), some (.iload_n 0, 1), some (.bipush 32, 2), none, some (.if_icmp .eq 9, 3)], [none, none, some (.iload_n 0, 1), some (.bipush 10, 2), none, some (.if_icmp .ne 5, 3), none, none, some (.iconst 1, 1), some (.ireturn, 1), some (.iload_n 0, 1), some (.iconst (-1), 1), some (.if_icmp .ne 7, 3), none, none, some (.iconst 0, 1)], [some (.goto 4, 3), none, none, some (.iconst 4, 1), some (.ireturn, 1)]]
/-- X2_begin -/
def jv_c14 : List (List jv_I) := [[some (.aload_n 0, 1), some (.iconst 0, 1), some (.putfield 25, 3), none, none, some (.aload_n 0, 1), some (.iconst 0, 1), some (.putfield 29, 3), none, none, some (.aload_n 0, 1), some (.invokevirtual 33, 3), none, none, some (.return_, 1)]]
/-- X2_nextToken -/
def jv_c15 : List (List jv_I) := [[some (.aload_n 0, 1), some (.aload_n 0, 1), some (.getfield 29, 3), none, none, some (.putfield 36, 3), none, none, some (.aload_n 0, 1), some (.getfield 36, 3), none, none, some (.aload_n 0, 1), some (.getfield 12, 3), none, none], [some (.getfield 39, 3), none, none, some (.if_icmp .ge 34, 3), none, none, some (.aload_n 0, 1), some (.getfield 12, 3), none, none, some (.aload_n 0, 1), some (.getfield 36, 3), none, none, some (.invokevirtual 42, 3), none], [none, some (.invokestatic 46, 3), none, none, some (.iconst 1, 1), some (.if_icmp .ne 16, 3), none, none, some (.aload_n 0, 1), some (.dup, 1), some (.getfield 36, 3), none, none, some (.iconst 1, 1), some (.iadd, 1), some (.putfield 36, 3)], [none, none, some (.goto (-42), 3), none, none, some (.aload_n 0, 1), some (.aload_n 0, 1), some (.getfield 12, 3), none, none, some (.aload_n 0, 1), some (.getfield 36, 3), none, none, some (.invokevirtual 42, 3), none], [none, some (.invokestatic 46, 3), none, none, some (.putfield 49, 3), none, none, some (.aload_n 0, 1), some (.aload_n 0, 1), some (.getfield 36, 3), none, none, some (.iconst 1, 1), some (.iadd, 1), some (.putfield 29, 3), none], [none, some (.aload_n 0, 1), some (.getfield 49, 3), none, none, some (.iconst 2, 1), some (.if_icmp .eq 11, 3), none, none, some (.aload_n 0, 1), some (.getfield 49, 3), none, none, some (.iconst 3, 1), some (.if_icmp .ne 7, 3), none], [none, some (.iconst 1, 1), some (.goto 4, 3), none, none, some (.iconst 0, 1), some (.istore_n 1, 1), some (.iload_n 1, 1), some (.ifCond .eq 51, 3), none, none, some (.aload_n 0, 1), some (.getfield 29, 3), none, none, some (.aload_n 0, 1)], [some (.getfield 12, 3), none, none, some (.getfield 39, 3), none, none, some (.if_icmp .ge 37, 3), none, none, some (.aload_n 0, 1), some (.getfield 12, 3), none, none, some (.aload_n 0, 1), some (.getfield 29, 3), none], [none, some (.invokevirtual 42, 3), none, none, some (.invokestatic 46, 3), none, none, some (.aload_n 0, 1), some (.getfield 49, 3), none, none, some (.if_icmp .ne 16, 3), none, none, some (.aload_n 0, 1), some (.dup, 1)], [some (.getfield 29, 3), none, none, some (.iconst 1, 1), some (.iadd, 1), some (.putfield 29, 3), none, none, some (.goto (-49), 3), none, none, some (.return_, 1)]]
/-- X2_isSign -/
def jv_c16 : List (List jv_I) := [[some (.aload_n 0, 1), some (.getfield 12, 3), none, none, some (.aload_n 0, 1), some (.getfield 36, 3), none, none, some (.invokevirtual 42, 3), none, none, some (.iload_n 1, 1), some (.if_icmp .ne 7, 3), none, none, some (.iconst 1, 1)], [some (.goto 4, 3), none, none, some (.iconst 0, 1), some (.ireturn, 1)]]
/-- X2_isWord -/
def jv_c17 : List (List jv_I) := [[some (.aload_n 0, 1), some (.getfield 49, 3), none, none, some (.iconst 2, 1), some (.if_icmp .ne 19, 3), none, none, some (.aload_n 0, 1), some (.getfield 29, 3), none, none, some (.aload_n 0, 1), some (.getfield 36, 3), none, none], [some (.isub, 1), some (.aload_n 1, 1), some (.invokevirtual 52, 3), none, none, some (.if_icmp .eq 5, 3), none, none, some (.iconst 0, 1), some (.ireturn, 1), some (.iconst 0, 1), some (.istore_n 2, 1), some (.iload_n 2, 1), some (.aload_n 1, 1), some (.invokevirtual 52, 3), none], [none, some (.if_icmp .ge 32, 3), none, none, some (.aload_n 0, 1), some (.getfield 12, 3), none, none, some (.aload_n 0, 1), some (.getfield 36, 3), none, none, some (.iload_n 2, 1), some (.iadd, 1), some (.invokevirtual 42, 3), none], [none, some (.aload_n 1, 1), some (.iload_n 2, 1), some (.invokevirtual 57, 3), none, none, some (.if_icmp .eq 5, 3), none, none, some (.iconst 0, 1), some (.ireturn, 1), some (.iinc 2 1, 3), none, none, some (.goto (-34), 3), none], [none, some (.iconst 1, 1), some (.ireturn, 1)]]
/-- X2_isKeyword -/
def jv_c18 : List (List jv_I) := [[some (.aload_n 0, 1), some (.ldc 61, 2), none, some (.invokevirtual 63, 3), none, none, some (.ifCond .ne 84, 3), none, none, some (.aload_n 0, 1), some (.ldc 67, 2), none, some (.invokevirtual 63, 3), none, none, some (.ifCond .ne 75, 3)], [none, none, some (.aload_n 0, 1), some (.ldc 69, 2), none, some (.invokevirtual 63, 3), none, none, some (.ifCond .ne 66, 3), none, none, some (.aload_n 0, 1), some (.ldc 71, 2), none, some (.invokevirtual 63, 3), none], [none, some (.ifCond .ne 57, 3), none, none, some (.aload_n 0, 1), some (.ldc 73, 2), none, some (.invokevirtual 63, 3), none, none, some (.ifCond .ne 48, 3), none, none, some (.aload_n 0, 1), some (.ldc 75, 2), none], [some (.invokevirtual 63, 3), none, none, some (.ifCond .ne 39, 3), none, none, some (.aload_n 0, 1), some (.ldc 77, 2), none, some (.invokevirtual 63, 3), none, none, some (.ifCond .ne 30, 3), none, none, some (.aload_n 0, 1)], [some (.ldc 79, 2), none, some (.invokevirtual 63, 3), none, none, some (.ifCond .ne 21, 3), none, none, some (.aload_n 0, 1), some (.ldc 81, 2), none, some (.invokevirtual 63, 3), none, none, some (.ifCond .ne 12, 3), none], [none, some (.aload_n 0, 1), some (.ldc 83, 2), none, some (.invokevirtual 63, 3), none, none, some (.ifCond .eq 7, 3), none, none, some (.iconst 1, 1), some (.goto 4, 3), none, none, some (.iconst 0, 1), some (.ireturn, 1)]]
/-- X2_isName -/
def jv_c19 : List (List jv_I) := [[some (.aload_n 0, 1), some (.getfield 49, 3), none, none, some (.iconst 2, 1), some (.if_icmp .ne 27, 3), none, none, some (.aload_n 0, 1), some (.getfield 29, 3), none, none, some (.aload_n 0, 1), some (.getfield 36, 3), none, none], [some (.isub, 1), some (.iconst 5, 1), some (.if_icmp .gt 14, 3), none, none, some (.aload_n 0, 1), some (.invokevirtual 85, 3), none, none, some (.ifCond .ne 7, 3), none, none, some (.iconst 1, 1), some (.goto 4, 3), none, none], [some (.iconst 0, 1), some (.ireturn, 1)]]
/-- X2_packedName -/
def jv_c20 : List (List jv_I) := [[some (.iconst 0, 1), some (.istore_n 1, 1), some (.aload_n 0, 1), some (.getfield 36, 3), none, none, some (.istore_n 2, 1), some (.iload_n 2, 1), some (.aload_n 0, 1), some (.getfield 29, 3), none, none, some (.if_icmp .ge 44, 3), none, none, some (.iload_n 2, 1)], [some (.aload_n 0, 1), some (.getfield 36, 3), none, none, some (.iconst 5, 1), some (.iadd, 1), some (.if_icmp .ge 34, 3), none, none, some (.iload_n 1, 1), some (.aload_n 0, 1), some (.getfield 12, 3), none, none, some (.iload_n 2, 1), some (.invokevirtual 42, 3)], [none, none, some (.bipush 97, 2), none, some (.isub, 1), some (.iconst 1, 1), some (.iadd, 1), some (.iconst 5, 1), some (.iload_n 2, 1), some (.aload_n 0, 1), some (.getfield 36, 3), none, none, some (.isub, 1), some (.imul, 1), some (.ishl, 1)], [some (.ior, 1), some (.istore_n 1, 1), some (.iinc 2 1, 3), none, none, some (.goto (-46), 3), none, none, some (.iload_n 1, 1), some (.ireturn, 1)]]
/-- X2_number -/
def jv_c21 : List (List jv_I) := [[some (.aload_n 0, 1), some (.getfield 49, 3), none, none, some (.iconst 3, 1), some (.if_icmp .ne 16, 3), none, none, some (.aload_n 0, 1), some (.getfield 29, 3), none, none, some (.aload_n 0, 1), some (.getfield 36, 3), none, none], [some (.isub, 1), some (.iconst 2, 1), some (.if_icmp .le 5, 3), none, none, some (.iconst (-1), 1), some (.ireturn, 1), some (.iconst 0, 1), some (.istore_n 1, 1), some (.aload_n 0, 1), some (.getfield 36, 3), none, none, some (.istore_n 2, 1), some (.iload_n 2, 1), some (.aload_n 0, 1)], [some (.getfield 29, 3), none, none, some (.if_icmp .ge 26, 3), none, none, some (.bipush 10, 2), none, some (.iload_n 1, 1), some (.imul, 1), some (.aload_n 0, 1), some (.getfield 12, 3), none, none, some (.iload_n 2, 1), some (.invokevirtual 42, 3)], [none, none, some (.iadd, 1), some (.bipush 48, 2), none, some (.isub, 1), some (.istore_n 1, 1), some (.iinc 2 1, 3), none, none, some (.goto (-28), 3), none, none, some (.iload_n 1, 1), some (.ireturn, 1)]]
/-- X2_pass -/
def jv_c22 : List (List jv_I) := [[some (.aload_n 0, 1), some (.aload_n 0, 1), some (.getfield 25, 3), none, none, some (.ifCond .ne 7, 3), none, none, some (.iload_n 1, 1), some (.ifCond .ne 7, 3), none, none, some (.iconst 1, 1), some (.goto 4, 3), none, none], [some (.iconst 0, 1), some (.putfield 25, 3), none, none, some (.aload_n 0, 1), some (.getfield 25, 3), none, none, some (.ifCond .ne 7, 3), none, none, some (.aload_n 0, 1), some (.invokevirtual 33, 3), none, none, some (.return_, 1)]]
/-- X2_take -/
def jv_c23 : List (List jv_I) := [[some (.aload_n 0, 1), some (.aload_n 0, 1), some (.aload_n 1, 1), some (.invokevirtual 63, 3), none, none, some (.invokevirtual 89, 3), none, none, some (.return_, 1)]]
/-- X2_takeIfThere -/
def jv_c24 : List (List jv_I) := [[some (.aload_n 0, 1), some (.getfield 25, 3), none, none, some (.ifCond .ne 15, 3), none, none, some (.aload_n 0, 1), some (.aload_n 1, 1), some (.invokevirtual 63, 3), none, none, some (.ifCond .eq 7, 3), none, none, some (.iconst 1, 1)], [some (.goto 4, 3), none, none, some (.iconst 0, 1), some (.istore_n 2, 1), some (.iload_n 2, 1), some (.ifCond .eq 7, 3), none, none, some (.aload_n 0, 1), some (.invokevirtual 33, 3), none, none, some (.iload_n 2, 1), some (.ireturn, 1)]]
/-- X2_takeInt -/
def jv_c25 : List (List jv_I) := [[some (.aload_n 0, 1), some (.invokevirtual 93, 3), none, none, some (.istore_n 3, 1), some (.aload_n 0, 1), some (.iload_n 3, 1), some (.iload_n 1, 1), some (.if_icmp .lt 12, 3), none, none, some (.iload_n 3, 1), some (.iload_n 2, 1), some (.if_icmp .gt 7, 3), none, none], [some (.iconst 1, 1), some (.goto 4, 3), none, none, some (.iconst 0, 1), some (.invokevirtual 89, 3), none, none, some (.iload_n 3, 1), some (.ireturn, 1)]]
/-- X2_takeLike -/
def jv_c26 : List (List jv_I) := [[some (.aload_n 0, 1), some (.bipush 45, 2), none, some (.invokevirtual 96, 3), none, none, some (.istore_n 1, 1), some (.aload_n 0, 1), some (.iload_n 1, 1), some (.ifCond .ne 12, 3), none, none, some (.aload_n 0, 1), some (.bipush 43, 2), none, some (.invokevirtual 96, 3)], [none, none, some (.ifCond .eq 7, 3), none, none, some (.iconst 1, 1), some (.goto 4, 3), none, none, some (.iconst 0, 1), some (.invokevirtual 89, 3), none, none, some (.aload_n 0, 1), some (.iconst 0, 1), some (.bipush 9, 2)], [none, some (.invokevirtual 100, 3), none, none, some (.istore_n 2, 1), some (.iload_n 1, 1), some (.ifCond .eq 8, 3), none, none, some (.iload_n 2, 1), some (.ineg, 1), some (.goto 4, 3), none, none, some (.iload_n 2, 1), some (.ireturn, 1)]]
/-- X2_takeFreeSeat -/
def jv_c27 : List (List jv_I) := [[some (.aload_n 0, 1), some (.aload_n 0, 1), some (.getfield 25, 3), none, none, some (.ifCond .ne 14, 3), none, none, some (.aload_n 1, 1), some (.aload_n 0, 1), some (.invokevirtual 93, 3), none, none, some (.invokevirtual 104, 3), none, none], [some (.ifCond .ne 7, 3), none, none, some (.iconst 1, 1), some (.goto 4, 3), none, none, some (.iconst 0, 1), some (.putfield 25, 3), none, none, some (.aload_n 0, 1), some (.iconst 0, 1), some (.aload_n 1, 1), some (.invokevirtual 110, 3), none], [none, some (.iconst 1, 1), some (.isub, 1), some (.invokevirtual 100, 3), none, none, some (.ireturn, 1)]]
/-- X2_takeName -/
def jv_c28 : List (List jv_I) := [[some (.aload_n 0, 1), some (.invokevirtual 113, 3), none, none, some (.istore_n 1, 1), some (.aload_n 0, 1), some (.aload_n 0, 1), some (.invokevirtual 116, 3), none, none, some (.invokevirtual 89, 3), none, none, some (.iload_n 1, 1), some (.ireturn, 1)]]
/-- X2_tapeIsName -/
def jv_c29 : List (List jv_I) := [[some (.aload_n 0, 1), some (.invokevirtual 119, 3), none, none, some (.aload_n 0, 1), some (.getfield 36, 3), none, none, some (.ifCond .ne 28, 3), none, none, some (.aload_n 0, 1), some (.getfield 29, 3), none, none, some (.aload_n 0, 1)], [some (.getfield 12, 3), none, none, some (.getfield 39, 3), none, none, some (.if_icmp .ne 14, 3), none, none, some (.aload_n 0, 1), some (.invokevirtual 116, 3), none, none, some (.ifCond .eq 7, 3), none, none], [some (.iconst 1, 1), some (.goto 4, 3), none, none, some (.iconst 0, 1), some (.ireturn, 1)]]
/-- X2_nameOnTape -/
def jv_c30 : List (List jv_I) := [[some (.aload_n 0, 1), some (.invokevirtual 119, 3), none, none, some (.aload_n 0, 1), some (.invokevirtual 113, 3), none, none, some (.ireturn, 1)]]
/-- X2_readSetup -/
def jv_c31 : List (List jv_I) := [[some (.aload_n 1, 1), some (.invokevirtual 122, 3), none, none, some (.aload_n 0, 1), some (.invokevirtual 119, 3), none, none, some (.aload_n 0, 1), some (.ldc 61, 2), none, some (.invokevirtual 125, 3), none, none, some (.aload_n 1, 1), some (.aload_n 0, 1)], [some (.iconst 2, 1), some (.bipush 10, 2), none, some (.invokevirtual 100, 3), none, none, some (.putfield 129, 3), none, none, some (.aload_n 0, 1), some (.ldc 67, 2), none, some (.invokevirtual 125, 3), none, none, some (.aload_n 1, 1)], [some (.aload_n 0, 1), some (.iconst 0, 1), some (.aload_n 1, 1), some (.getfield 129, 3), none, none, some (.invokevirtual 100, 3), none, none, some (.putfield 132, 3), none, none, some (.aload_n 0, 1), some (.aload_n 0, 1), some (.bipush 59, 2), none], [some (.invokevirtual 96, 3), none, none, some (.invokevirtual 89, 3), none, none, some (.iconst 0, 1), some (.istore_n 2, 1), some (.iload_n 2, 1), some (.bipush 20, 2), none, some (.if_icmp .ge 28, 3), none, none, some (.aload_n 0, 1), some (.getfield 49, 3)], [none, none, some (.ifCond .eq 21, 3), none, none, some (.aload_n 0, 1), some (.getfield 25, 3), none, none, some (.ifCond .ne 14, 3), none, none, some (.aload_n 0, 1), some (.aload_n 1, 1), some (.invokevirtual 134, 3), none], [none, some (.iinc 2 1, 3), none, none, some (.goto (-28), 3), none, none, some (.aload_n 0, 1), some (.getfield 49, 3), none, none, some (.ifCond .ne 14, 3), none, none, some (.aload_n 0, 1), some (.getfield 25, 3)], [none, none, some (.ifCond .ne 7, 3), none, none, some (.iconst 1, 1), some (.goto 4, 3), none, none, some (.iconst 0, 1), some (.ireturn, 1)]]
/-- X2_readTraveller -/
def jv_c32_0 : List (List jv_I) := [[some (.aload_n 0, 1), some (.getfield 21, 3), none, none, some (.invokevirtual 138, 3), none, none, some (.aload_n 0, 1), some (.ldc 69, 2), none, some (.invokevirtual 125, 3), none, none, some (.aload_n 0, 1), some (.getfield 21, 3), none], [none, some (.aload_n 0, 1), some (.aload_n 1, 1), some (.invokevirtual 139, 3), none, none, some (.putfield 143, 3), none, none, some (.aload_n 0, 1), some (.getfield 21, 3), none, none, some (.aload_n 0, 1), some (.invokevirtual 145, 3), none], [none, some (.putfield 148, 3), none, none, some (.aload_n 0, 1), some (.ldc 71, 2), none, some (.invokevirtual 151, 3), none, none, some (.ifCond .eq 11, 3), none, none, some (.aload_n 0, 1), some (.getfield 21, 3), none], [none, some (.iconst 1, 1), some (.putfield 154, 3), none, none, some (.aload_n 0, 1), some (.ldc 73, 2), none, some (.invokevirtual 151, 3), none, none, some (.ifCond .eq 17, 3), none, none, some (.aload_n 0, 1), some (.getfield 21, 3)], [none, none, some (.aload_n 0, 1), some (.iconst 1, 1), some (.bipush 9, 2), none, some (.invokevirtual 100, 3), none, none, some (.putfield 156, 3), none, none, some (.aload_n 0, 1), some (.ldc 75, 2), none, some (.invokevirtual 151, 3)], [none, none, some (.ifCond .eq 14, 3), none, none, some (.aload_n 0, 1), some (.getfield 21, 3), none, none, some (.aload_n 0, 1), some (.invokevirtual 158, 3), none, none, some (.putfield 161, 3), none, none], [some (.aload_n 0, 1), some (.ldc 77, 2), none, some (.invokevirtual 151, 3), none, none, some (.ifCond .eq 14, 3), none, none, some (.aload_n 0, 1), some (.getfield 21, 3), none, none, some (.aload_n 0, 1), some (.invokevirtual 158, 3), none], [none, some (.putfield 163, 3), none, none, some (.aload_n 0, 1), some (.ldc 79, 2), none, some (.invokevirtual 151, 3), none, none, some (.ifCond .eq 34, 3), none, none, some (.aload_n 0, 1), some (.getfield 21, 3), none], [none, some (.aload_n 0, 1), some (.iconst 0, 1), some (.aload_n 1, 1), some (.getfield 129, 3), none, none, some (.iconst 1, 1), some (.isub, 1), some (.invokevirtual 100, 3), none, none, some (.putfield 165, 3), none, none, some (.aload_n 0, 1)], [some (.getfield 21, 3), none, none, some (.aload_n 0, 1), some (.iconst 0, 1), some (.iconst 3, 1), some (.invokevirtual 100, 3), none, none, some (.putfield 167, 3), none, none, some (.aload_n 0, 1), some (.ldc 81, 2), none, some (.invokevirtual 151, 3)], [none, none, some (.ifCond .eq 17, 3), none, none, some (.aload_n 0, 1), some (.getfield 21, 3), none, none, some (.aload_n 0, 1), some (.iconst 0, 1), some (.bipush 99, 2), none, some (.invokevirtual 100, 3), none, none], [some (.putfield 170, 3), none, none, some (.aload_n 0, 1), some (.ldc 83, 2), none, some (.invokevirtual 151, 3), none, none, some (.ifCond .eq 17, 3), none, none, some (.aload_n 0, 1), some (.getfield 21, 3), none, none]]
def jv_c32_1 : List (List jv_I) := [[some (.aload_n 0, 1), some (.iconst 1, 1), some (.bipush 99, 2), none, some (.invokevirtual 100, 3), none, none, some (.putfield 172, 3), none, none, some (.aload_n 0, 1), some (.aload_n 0, 1), some (.bipush 59, 2), none, some (.invokevirtual 96, 3), none], [none, some (.ifCond .eq 28, 3), none, none, some (.aload_n 1, 1), some (.aload_n 0, 1), some (.getfield 21, 3), none, none, some (.getfield 154, 3), none, none, some (.aload_n 0, 1), some (.getfield 21, 3), none, none], [some (.getfield 143, 3), none, none, some (.invokevirtual 174, 3), none, none, some (.ifCond .eq 7, 3), none, none, some (.iconst 1, 1), some (.goto 4, 3), none, none, some (.iconst 0, 1), some (.invokevirtual 89, 3), none], [none, some (.aload_n 0, 1), some (.getfield 25, 3), none, none, some (.ifCond .ne 11, 3), none, none, some (.aload_n 1, 1), some (.aload_n 0, 1), some (.getfield 21, 3), none, none, some (.invokevirtual 178, 3), none, none], [some (.return_, 1)]]
def jv_c32 : List (List jv_I) := jv_c32_0 ++ jv_c32_1
/-- X3_init -/
def jv_c33 : List (List jv_I) := [[some (.aload_n 0, 1), some (.invokespecial 3, 3), none, none, some (.return_, 1)]]
/-- X3_write -/
def jv_c34 : List (List jv_I) := [[some (.aload_n 0, 1), some (.iconst 0, 1), some (.putfield 9, 3), none, none, some (.aload_n 0, 1), some (.iload_n 2, 1), some (.putfield 15, 3), none, none, some (.aload_n 0, 1), some (.bipush (-2), 2), none, some (.putfield 18, 3), none, none], [some (.aload_n 0, 1), some (.ldc 21, 2), none, some (.invokevirtual 23, 3), none, none, some (.aload_n 0, 1), some (.aload_n 1, 1), some (.getfield 27, 3), none, none, some (.invokevirtual 32, 3), none, none, some (.aload_n 0, 1), some (.ldc 36, 2)], [none, some (.invokevirtual 23, 3), none, none, some (.aload_n 0, 1), some (.aload_n 1, 1), some (.getfield 38, 3), none, none, some (.invokevirtual 32, 3), none, none, some (.aload_n 0, 1), some (.bipush 59, 2), none, some (.invokevirtual 41, 3)], [none, none, some (.iconst 0, 1), some (.istore_n 3, 1), some (.iload_n 3, 1), some (.aload_n 1, 1), some (.getfield 44, 3), none, none, some (.if_icmp .ge 18, 3), none, none, some (.aload_n 0, 1), some (.aload_n 1, 1), some (.iload_n 3, 1), some (.invokevirtual 47, 3)], [none, none, some (.invokevirtual 51, 3), none, none, some (.iinc 3 1, 3), none, none, some (.goto (-20), 3), none, none, some (.return_, 1)]]
/-- X3_putTraveller -/
def jv_c35 : List (List jv_I) := [[some (.aload_n 0, 1), some (.ldc 55, 2), none, some (.invokevirtual 23, 3), none, none, some (.aload_n 0, 1), some (.aload_n 1, 1), some (.getfield 57, 3), none, none, some (.invokevirtual 32, 3), none, none, some (.aload_n 0, 1), some (.bipush 32, 2)], [none, some (.invokevirtual 41, 3), none, none, some (.iconst 0, 1), some (.istore_n 2, 1), some (.iload_n 2, 1), some (.iconst 5, 1), some (.if_icmp .ge 31, 3), none, none, some (.aload_n 1, 1), some (.iload_n 2, 1), some (.invokevirtual 62, 3), none, none], [some (.ifCond .le 23, 3), none, none, some (.aload_n 0, 1), some (.bipush 97, 2), none, some (.aload_n 1, 1), some (.iload_n 2, 1), some (.invokevirtual 62, 3), none, none, some (.iadd, 1), some (.iconst 1, 1), some (.isub, 1), some (.invokevirtual 41, 3), none], [none, some (.iinc 2 1, 3), none, none, some (.goto (-30), 3), none, none, some (.aload_n 1, 1), some (.getfield 66, 3), none, none, some (.iconst 1, 1), some (.if_icmp .ne 9, 3), none, none, some (.aload_n 0, 1)], [some (.ldc 69, 2), none, some (.invokevirtual 23, 3), none, none, some (.aload_n 0, 1), some (.ldc 71, 2), none, some (.aload_n 1, 1), some (.getfield 73, 3), none, none, some (.iconst 0, 1), some (.invokevirtual 76, 3), none, none], [some (.aload_n 0, 1), some (.ldc 80, 2), none, some (.aload_n 1, 1), some (.getfield 82, 3), none, none, some (.invokevirtual 85, 3), none, none, some (.aload_n 0, 1), some (.ldc 89, 2), none, some (.aload_n 1, 1), some (.getfield 91, 3), none], [none, some (.invokevirtual 85, 3), none, none, some (.aload_n 1, 1), some (.getfield 94, 3), none, none, some (.ifCond .gt 10, 3), none, none, some (.aload_n 1, 1), some (.getfield 97, 3), none, none, some (.ifCond .le 31, 3)], [none, none, some (.aload_n 0, 1), some (.ldc 100, 2), none, some (.invokevirtual 23, 3), none, none, some (.aload_n 0, 1), some (.aload_n 1, 1), some (.getfield 94, 3), none, none, some (.invokevirtual 32, 3), none, none], [some (.aload_n 0, 1), some (.bipush 32, 2), none, some (.invokevirtual 41, 3), none, none, some (.aload_n 0, 1), some (.aload_n 1, 1), some (.getfield 97, 3), none, none, some (.invokevirtual 32, 3), none, none, some (.aload_n 0, 1), some (.ldc 102, 2)], [none, some (.aload_n 1, 1), some (.getfield 104, 3), none, none, some (.iconst 0, 1), some (.invokevirtual 76, 3), none, none, some (.aload_n 0, 1), some (.ldc 107, 2), none, some (.aload_n 1, 1), some (.getfield 109, 3), none, none], [some (.bipush 99, 2), none, some (.invokevirtual 76, 3), none, none, some (.aload_n 0, 1), some (.bipush 59, 2), none, some (.invokevirtual 41, 3), none, none, some (.return_, 1)]]
/-- X3_putPart -/
def jv_c36 : List (List jv_I) := [[some (.iload_n 2, 1), some (.iload_n 3, 1), some (.if_icmp .eq 13, 3), none, none, some (.aload_n 0, 1), some (.aload_n 1, 1), some (.invokevirtual 23, 3), none, none, some (.aload_n 0, 1), some (.iload_n 2, 1), some (.invokevirtual 32, 3), none, none, some (.return_, 1)]]
/-- X3_putLike -/
def jv_c37 : List (List jv_I) := [[some (.iload_n 2, 1), some (.ifCond .eq 31, 3), none, none, some (.aload_n 0, 1), some (.aload_n 1, 1), some (.invokevirtual 23, 3), none, none, some (.aload_n 0, 1), some (.iload_n 2, 1), some (.ifCond .le 8, 3), none, none, some (.bipush 43, 2), none], [some (.goto 5, 3), none, none, some (.bipush 45, 2), none, some (.invokevirtual 41, 3), none, none, some (.aload_n 0, 1), some (.iload_n 2, 1), some (.invokestatic 112, 3), none, none, some (.invokevirtual 32, 3), none, none], [some (.return_, 1)]]
/-- X3_putNumber -/
def jv_c38 : List (List jv_I) := [[some (.iconst 0, 1), some (.istore_n 2, 1), some (.ldc 117, 2), none, some (.istore_n 3, 1), some (.iload_n 3, 1), some (.ifCond .le 48, 3), none, none, some (.iload_n 2, 1), some (.ifCond .ne 13, 3), none, none, some (.iload_n 1, 1), some (.iload_n 3, 1), some (.if_icmp .ge 8, 3)], [none, none, some (.iload_n 3, 1), some (.iconst 1, 1), some (.if_icmp .ne 7, 3), none, none, some (.iconst 1, 1), some (.goto 4, 3), none, none, some (.iconst 0, 1), some (.istore_n 2, 1), some (.iload_n 2, 1), some (.ifCond .eq 16, 3), none], [none, some (.aload_n 0, 1), some (.bipush 48, 2), none, some (.iload_n 1, 1), some (.iload_n 3, 1), some (.idiv, 1), some (.bipush 10, 2), none, some (.irem, 1), some (.iadd, 1), some (.invokevirtual 41, 3), none, none, some (.iload_n 3, 1), some (.bipush 10, 2)], [none, some (.idiv, 1), some (.istore_n 3, 1), some (.goto (-46), 3), none, none, some (.return_, 1)]]
/-- X3_putText -/
def jv_c39 : List (List jv_I) := [[some (.iconst 0, 1), some (.istore_n 2, 1), some (.iload_n 2, 1), some (.aload_n 1, 1), some (.invokevirtual 118, 3), none, none, some (.if_icmp .ge 18, 3), none, none, some (.aload_n 0, 1), some (.aload_n 1, 1), some (.iload_n 2, 1), some (.invokevirtual 123, 3), none, none], [some (.invokevirtual 41, 3), none, none, some (.iinc 2 1, 3), none, none, some (.goto (-20), 3), none, none, some (.return_, 1)]]
/-- X3_put -/
def jv_c40 : List (List jv_I) := [[some (.aload_n 0, 1), some (.getfield 9, 3), none, none, some (.aload_n 0, 1), some (.getfield 15, 3), none, none, some (.if_icmp .ne 8, 3), none, none, some (.aload_n 0, 1), some (.iload_n 1, 1), some (.putfield 18, 3), none, none], [some (.aload_n 0, 1), some (.dup, 1), some (.getfield 9, 3), none, none, some (.iconst 1, 1), some (.iadd, 1), some (.putfield 9, 3), none, none, some (.return_, 1)]]
/-- X4_init -/
def jv_c41 : List (List jv_I) := [[some (.aload_n 0, 1), some (.invokespecial 1, 3), none, none, some (.aload_n 0, 1), some (.sipush 1000, 3), none, none, some (.newarray .int, 2), none, some (.putfield 9, 3), none, none, some (.return_, 1)]]
/-- X4_hasRoom -/
def jv_c42 : List (List jv_I) := [[some (.aload_n 0, 1), some (.getfield 13, 3), none, none, some (.bipush 20, 2), none, some (.iadd, 1), some (.sipush 1000, 3), none, none, some (.if_icmp .gt 7, 3), none, none, some (.iconst 1, 1), some (.goto 4, 3), none], [none, some (.iconst 0, 1), some (.ireturn, 1)]]
/-- X4_putFour -/
def jv_c43 : List (List jv_I) := [[some (.bipush 24, 2), none, some (.istore_n 2, 1), some (.iload_n 2, 1), some (.ifCond .lt 20, 3), none, none, some (.aload_n 0, 1), some (.iload_n 1, 1), some (.iload_n 2, 1), some (.ishr, 1), some (.sipush 255, 3), none, none, some (.iand, 1), some (.invokevirtual 17, 3)], [none, none, some (.iinc 2 (-8), 3), none, none, some (.goto (-18), 3), none, none, some (.return_, 1)]]
/-- X4_put -/
def jv_c44 : List (List jv_I) := [[some (.aload_n 0, 1), some (.getfield 13, 3), none, none, some (.ifCond .lt 35, 3), none, none, some (.aload_n 0, 1), some (.getfield 13, 3), none, none, some (.aload_n 0, 1), some (.getfield 9, 3), none, none, some (.arraylength, 1)], [some (.if_icmp .ge 23, 3), none, none, some (.aload_n 0, 1), some (.getfield 9, 3), none, none, some (.aload_n 0, 1), some (.getfield 13, 3), none, none, some (.iload_n 1, 1), some (.iastore, 1), some (.aload_n 0, 1), some (.dup, 1), some (.getfield 13, 3)], [none, none, some (.iconst 1, 1), some (.iadd, 1), some (.putfield 13, 3), none, none, some (.return_, 1)]]
/-- X4_byteAt -/
def jv_c45 : List (List jv_I) := [[some (.iload_n 1, 1), some (.ifCond .lt 29, 3), none, none, some (.iload_n 1, 1), some (.aload_n 0, 1), some (.getfield 13, 3), none, none, some (.if_icmp .ge 21, 3), none, none, some (.iload_n 1, 1), some (.aload_n 0, 1), some (.getfield 9, 3), none], [none, some (.arraylength, 1), some (.if_icmp .ge 12, 3), none, none, some (.aload_n 0, 1), some (.getfield 9, 3), none, none, some (.iload_n 1, 1), some (.iaload, 1), some (.goto 4, 3), none, none, some (.iconst (-1), 1), some (.ireturn, 1)]]
/-- X5_init -/
def jv_c46 : List (List jv_I) := [[some (.aload_n 0, 1), some (.invokespecial 3, 3), none, none, some (.aload_n 0, 1), some (.bipush 20, 2), none, some (.anewarray 9, 3), none, none, some (.putfield 11, 3), none, none, some (.iconst 0, 1), some (.istore_n 1, 1), some (.iload_n 1, 1)], [some (.bipush 20, 2), none, some (.if_icmp .ge 22, 3), none, none, some (.aload_n 0, 1), some (.getfield 11, 3), none, none, some (.iload_n 1, 1), some (.new 9, 3), none, none, some (.dup, 1), some (.invokespecial 17, 3), none], [none, some (.aastore, 1), some (.iinc 1 1, 3), none, none, some (.goto (-22), 3), none, none, some (.aload_n 0, 1), some (.new 9, 3), none, none, some (.dup, 1), some (.invokespecial 17, 3), none, none], [some (.putfield 18, 3), none, none, some (.aload_n 0, 1), some (.bipush 50, 2), none, some (.newarray .int, 2), none, some (.putfield 22, 3), none, none, some (.aload_n 0, 1), some (.new 26, 3), none, none, some (.dup, 1)], [some (.invokespecial 28, 3), none, none, some (.putfield 29, 3), none, none, some (.aload_n 0, 1), some (.iconst 4, 1), some (.putfield 33, 3), none, none, some (.aload_n 0, 1), some (.iconst 1, 1), some (.putfield 37, 3), none, none], [some (.return_, 1)]]
/-- X5_clear -/
def jv_c47 : List (List jv_I) := [[some (.iconst 0, 1), some (.istore_n 1, 1), some (.iload_n 1, 1), some (.aload_n 0, 1), some (.getfield 22, 3), none, none, some (.arraylength, 1), some (.if_icmp .ge 16, 3), none, none, some (.aload_n 0, 1), some (.getfield 22, 3), none, none, some (.iload_n 1, 1)], [some (.iconst 0, 1), some (.iastore, 1), some (.iinc 1 1, 3), none, none, some (.goto (-19), 3), none, none, some (.aload_n 0, 1), some (.getfield 29, 3), none, none, some (.invokevirtual 40, 3), none, none, some (.aload_n 0, 1)], [some (.iconst 0, 1), some (.putfield 37, 3), none, none, some (.aload_n 0, 1), some (.iconst 0, 1), some (.putfield 43, 3), none, none, some (.aload_n 0, 1), some (.iconst 0, 1), some (.putfield 46, 3), none, none, some (.aload_n 0, 1), some (.iconst 0, 1)], [some (.putfield 49, 3), none, none, some (.aload_n 0, 1), some (.iconst 0, 1), some (.putfield 52, 3), none, none, some (.aload_n 0, 1), some (.iconst 0, 1), some (.putfield 55, 3), none, none, some (.aload_n 0, 1), some (.iconst 0, 1), some (.putfield 58, 3)], [none, none, some (.aload_n 0, 1), some (.iconst 0, 1), some (.putfield 61, 3), none, none, some (.return_, 1)]]
/-- X5_copyFrom -/
def jv_c48 : List (List jv_I) := [[some (.iconst 0, 1), some (.istore_n 2, 1), some (.iload_n 2, 1), some (.aload_n 1, 1), some (.getfield 46, 3), none, none, some (.if_icmp .ge 22, 3), none, none, some (.aload_n 0, 1), some (.iload_n 2, 1), some (.invokevirtual 64, 3), none, none, some (.aload_n 1, 1)], [some (.iload_n 2, 1), some (.invokevirtual 64, 3), none, none, some (.invokevirtual 68, 3), none, none, some (.iinc 2 1, 3), none, none, some (.goto (-24), 3), none, none, some (.iconst 0, 1), some (.istore_n 2, 1), some (.iload_n 2, 1)], [some (.aload_n 0, 1), some (.getfield 22, 3), none, none, some (.arraylength, 1), some (.if_icmp .ge 30, 3), none, none, some (.iload_n 2, 1), some (.aload_n 1, 1), some (.getfield 22, 3), none, none, some (.arraylength, 1), some (.if_icmp .ge 21, 3), none], [none, some (.aload_n 0, 1), some (.getfield 22, 3), none, none, some (.iload_n 2, 1), some (.aload_n 1, 1), some (.getfield 22, 3), none, none, some (.iload_n 2, 1), some (.iaload, 1), some (.iastore, 1), some (.iinc 2 1, 3), none, none], [some (.goto (-33), 3), none, none, some (.aload_n 0, 1), some (.getfield 29, 3), none, none, some (.aload_n 1, 1), some (.getfield 29, 3), none, none, some (.invokevirtual 72, 3), none, none, some (.aload_n 0, 1), some (.aload_n 1, 1)], [some (.getfield 33, 3), none, none, some (.putfield 33, 3), none, none, some (.aload_n 0, 1), some (.aload_n 1, 1), some (.getfield 37, 3), none, none, some (.putfield 37, 3), none, none, some (.aload_n 0, 1), some (.aload_n 1, 1)], [some (.getfield 43, 3), none, none, some (.putfield 43, 3), none, none, some (.aload_n 0, 1), some (.aload_n 1, 1), some (.getfield 46, 3), none, none, some (.putfield 46, 3), none, none, some (.aload_n 0, 1), some (.aload_n 1, 1)], [some (.getfield 49, 3), none, none, some (.putfield 49, 3), none, none, some (.aload_n 0, 1), some (.aload_n 1, 1), some (.getfield 52, 3), none, none, some (.putfield 52, 3), none, none, some (.aload_n 0, 1), some (.aload_n 1, 1)], [some (.getfield 55, 3), none, none, some (.putfield 55, 3), none, none, some (.aload_n 0, 1), some (.aload_n 1, 1), some (.getfield 58, 3), none, none, some (.putfield 58, 3), none, none, some (.aload_n 0, 1), some (.aload_n 1, 1)], [some (.getfield 61, 3), none, none, some (.putfield 61, 3), none, none, some (.return_, 1)]]
/-- X5_traveller -/
def jv_c49 : List (List jv_I) := [[some (.iload_n 1, 1), some (.ifCond .lt 21, 3), none, none, some (.iload_n 1, 1), some (.aload_n 0, 1), some (.getfield 11, 3), none, none, some (.arraylength, 1), some (.if_icmp .ge 12, 3), none, none, some (.aload_n 0, 1), some (.getfield 11, 3), none], [none, some (.iload_n 1, 1), some (.aaload, 1), some (.goto 7, 3), none, none, some (.aload_n 0, 1), some (.getfield 18, 3), none, none, some (.areturn, 1)]]
/-- X5_seats -/
def jv_c50 : List (List jv_I) := [[some (.aload_n 0, 1), some (.getfield 33, 3), none, none, some (.iconst 4, 1), some (.imul, 1), some (.ireturn, 1)]]
/-- X5_tables -/
def jv_c51 : List (List jv_I) := [[some (.aload_n 0, 1), some (.getfield 33, 3), none, none, some (.iconst 1, 1), some (.iadd, 1), some (.iconst 2, 1), some (.idiv, 1), some (.ireturn, 1)]]
/-- X5_isSeat -/
def jv_c52 : List (List jv_I) := [[some (.iload_n 1, 1), some (.iconst 0, 1), some (.aload_n 0, 1), some (.invokevirtual 75, 3), none, none, some (.iconst 1, 1), some (.isub, 1), some (.invokestatic 79, 3), none, none, some (.ireturn, 1)]]
/-- X5_isTraveller -/
def jv_c53 : List (List jv_I) := [[some (.iload_n 1, 1), some (.iconst 0, 1), some (.aload_n 0, 1), some (.getfield 46, 3), none, none, some (.iconst 1, 1), some (.isub, 1), some (.invokestatic 79, 3), none, none, some (.ireturn, 1)]]
/-- X5_isInRange -/
def jv_c54 : List (List jv_I) := [[some (.iload_n 1, 1), some (.tableswitch 70 0 4 #[35, 35, 44, 56, 63], 35), none, none, none, none, none, none, none, none, none, none, none, none, none, none], [none, none, none, none, none, none, none, none, none, none, none, none, none, none, none, none], [none, none, none, none, some (.iload_n 2, 1), some (.bipush (-9), 2), none, some (.bipush 9, 2), none, some (.invokestatic 79, 3), none, none, some (.ireturn, 1), some (.iload_n 2, 1), some (.iconst 0, 1), some (.aload_n 0, 1)], [some (.getfield 33, 3), none, none, some (.iconst 1, 1), some (.isub, 1), some (.invokestatic 79, 3), none, none, some (.ireturn, 1), some (.iload_n 2, 1), some (.iconst 0, 1), some (.iconst 3, 1), some (.invokestatic 79, 3), none, none, some (.ireturn, 1)], [some (.iload_n 2, 1), some (.iconst 0, 1), some (.iconst 1, 1), some (.invokestatic 79, 3), none, none, some (.ireturn, 1), some (.iconst 0, 1), some (.ireturn, 1)]]
/-- X5_whoHas -/
def jv_c55 : List (List jv_I) := [[some (.iconst 0, 1), some (.istore_n 2, 1), some (.iload_n 2, 1), some (.aload_n 0, 1), some (.getfield 46, 3), none, none, some (.if_icmp .ge 23, 3), none, none, some (.aload_n 0, 1), some (.iload_n 2, 1), some (.invokevirtual 64, 3), none, none, some (.getfield 83, 3)], [none, none, some (.iload_n 1, 1), some (.if_icmp .ne 5, 3), none, none, some (.iload_n 2, 1), some (.ireturn, 1), some (.iinc 2 1, 3), none, none, some (.goto (-25), 3), none, none, some (.bipush (-2), 2), none], [some (.ireturn, 1)]]
/-- X5_isFree -/
def jv_c56 : List (List jv_I) := [[some (.aload_n 0, 1), some (.iload_n 1, 1), some (.invokevirtual 86, 3), none, none, some (.bipush (-2), 2), none, some (.if_icmp .ne 7, 3), none, none, some (.iconst 1, 1), some (.goto 4, 3), none, none, some (.iconst 0, 1), some (.ireturn, 1)]]
/-- X5_allows -/
def jv_c57 : List (List jv_I) := [[some (.iload_n 1, 1), some (.iconst 1, 1), some (.if_icmp .eq 13, 3), none, none, some (.iload_n 2, 1), some (.iconst 4, 1), some (.idiv, 1), some (.aload_n 0, 1), some (.getfield 37, 3), none, none, some (.if_icmp .lt 7, 3), none, none, some (.iconst 1, 1)], [some (.goto 4, 3), none, none, some (.iconst 0, 1), some (.ireturn, 1)]]
/-- X5_maySit -/
def jv_c58 : List (List jv_I) := [[some (.aload_n 0, 1), some (.aload_n 0, 1), some (.iload_n 1, 1), some (.invokevirtual 64, 3), none, none, some (.getfield 90, 3), none, none, some (.iload_n 2, 1), some (.invokevirtual 93, 3), none, none, some (.ireturn, 1)]]
/-- X5_barredBy -/
def jv_c59 : List (List jv_I) := [[some (.iconst 0, 1), some (.istore_n 2, 1), some (.iconst 0, 1), some (.istore_n 3, 1), some (.iload_n 3, 1), some (.aload_n 0, 1), some (.getfield 46, 3), none, none, some (.if_icmp .ge 38, 3), none, none, some (.aload_n 0, 1), some (.iload_n 3, 1), some (.invokevirtual 64, 3), none], [none, some (.astore 4, 2), none, some (.aload 4, 2), none, some (.getfield 90, 3), none, none, some (.ifCond .ne 17, 3), none, none, some (.aload 4, 2), none, some (.getfield 83, 3), none, none], [some (.iconst 4, 1), some (.idiv, 1), some (.iload_n 1, 1), some (.if_icmp .ge 6, 3), none, none, some (.iinc 2 1, 3), none, none, some (.iinc 3 1, 3), none, none, some (.goto (-40), 3), none, none, some (.iload_n 2, 1)], [some (.ireturn, 1)]]
/-- X5_membersAt -/
def jv_c60 : List (List jv_I) := [[some (.iload_n 1, 1), some (.bipush 10, 2), none, some (.imul, 1), some (.iload_n 2, 1), some (.iadd, 1), some (.istore_n 3, 1), some (.iload_n 3, 1), some (.ifCond .lt 21, 3), none, none, some (.iload_n 3, 1), some (.aload_n 0, 1), some (.getfield 22, 3), none, none], [some (.arraylength, 1), some (.if_icmp .ge 12, 3), none, none, some (.aload_n 0, 1), some (.getfield 22, 3), none, none, some (.iload_n 3, 1), some (.iaload, 1), some (.goto 4, 3), none, none, some (.iconst 0, 1), some (.ireturn, 1)]]
/-- X5_countAtTable -/
def jv_c61 : List (List jv_I) := [[some (.aload_n 1, 1), some (.getfield 83, 3), none, none, some (.bipush 8, 2), none, some (.idiv, 1), some (.bipush 10, 2), none, some (.imul, 1), some (.aload_n 1, 1), some (.getfield 97, 3), none, none, some (.iadd, 1), some (.istore_n 3, 1)], [some (.iload_n 3, 1), some (.ifCond .lt 22, 3), none, none, some (.iload_n 3, 1), some (.aload_n 0, 1), some (.getfield 22, 3), none, none, some (.arraylength, 1), some (.if_icmp .ge 13, 3), none, none, some (.aload_n 0, 1), some (.getfield 22, 3), none], [none, some (.iload_n 3, 1), some (.dup2, 1), some (.iaload, 1), some (.iload_n 2, 1), some (.iadd, 1), some (.iastore, 1), some (.return_, 1)]]
/-- X5_admit -/
def jv_c62 : List (List jv_I) := [[some (.aload_n 0, 1), some (.getfield 46, 3), none, none, some (.aload_n 0, 1), some (.getfield 11, 3), none, none, some (.arraylength, 1), some (.if_icmp .lt 4, 3), none, none, some (.return_, 1), some (.aload_n 0, 1), some (.aload_n 0, 1), some (.getfield 46, 3)], [none, none, some (.invokevirtual 64, 3), none, none, some (.aload_n 1, 1), some (.invokevirtual 68, 3), none, none, some (.aload_n 0, 1), some (.aload_n 1, 1), some (.iconst 1, 1), some (.invokevirtual 100, 3), none, none, some (.aload_n 0, 1)], [some (.dup, 1), some (.getfield 46, 3), none, none, some (.iconst 1, 1), some (.iadd, 1), some (.putfield 46, 3), none, none, some (.return_, 1)]]
/-- X5_letOff -/
def jv_c63 : List (List jv_I) := [[some (.aload_n 0, 1), some (.iload_n 1, 1), some (.invokevirtual 64, 3), none, none, some (.astore_n 2, 1), some (.aload_n 0, 1), some (.getfield 29, 3), none, none, some (.iconst 4, 1), some (.iload_n 1, 1), some (.aload_n 2, 1), some (.getfield 83, 3), none, none], [some (.invokevirtual 104, 3), none, none, some (.aload_n 0, 1), some (.aload_n 2, 1), some (.iconst (-1), 1), some (.invokevirtual 100, 3), none, none, some (.aload_n 0, 1), some (.dup, 1), some (.getfield 46, 3), none, none, some (.iconst 1, 1), some (.isub, 1)], [some (.putfield 46, 3), none, none, some (.iload_n 1, 1), some (.istore_n 3, 1), some (.iload_n 3, 1), some (.aload_n 0, 1), some (.getfield 46, 3), none, none, some (.if_icmp .ge 24, 3), none, none, some (.aload_n 0, 1), some (.iload_n 3, 1), some (.invokevirtual 64, 3)], [none, none, some (.aload_n 0, 1), some (.iload_n 3, 1), some (.iconst 1, 1), some (.iadd, 1), some (.invokevirtual 64, 3), none, none, some (.invokevirtual 68, 3), none, none, some (.iinc 3 1, 3), none, none, some (.goto (-26), 3)], [none, none, some (.aload_n 0, 1), some (.dup, 1), some (.getfield 61, 3), none, none, some (.iconst 1, 1), some (.iadd, 1), some (.putfield 61, 3), none, none, some (.return_, 1)]]
/-- X5_goOn -/
def jv_c64 : List (List jv_I) := [[some (.aload_n 0, 1), some (.dup, 1), some (.getfield 43, 3), none, none, some (.iconst 1, 1), some (.iadd, 1), some (.putfield 43, 3), none, none, some (.aload_n 0, 1), some (.getfield 46, 3), none, none, some (.iconst 1, 1), some (.isub, 1)], [some (.istore_n 1, 1), some (.iload_n 1, 1), some (.ifCond .lt 29, 3), none, none, some (.aload_n 0, 1), some (.iload_n 1, 1), some (.invokevirtual 64, 3), none, none, some (.getfield 108, 3), none, none, some (.aload_n 0, 1), some (.getfield 43, 3), none], [none, some (.if_icmp .ne 8, 3), none, none, some (.aload_n 0, 1), some (.iload_n 1, 1), some (.invokevirtual 111, 3), none, none, some (.iinc 1 (-1), 3), none, none, some (.goto (-27), 3), none, none, some (.return_, 1)]]
/-- X5_joyIn -/
def jv_c65 : List (List jv_I) := [[some (.aload_n 0, 1), some (.iload_n 1, 1), some (.invokevirtual 64, 3), none, none, some (.astore_n 3, 1), some (.iload_n 2, 1), some (.iconst 4, 1), some (.idiv, 1), some (.istore 4, 2), none, some (.iload_n 2, 1), some (.iconst 4, 1), some (.irem, 1), some (.istore 5, 2), none], [some (.iconst 4, 1), some (.aload_n 0, 1), some (.aload_n 3, 1), some (.iload_n 2, 1), some (.bipush 8, 2), none, some (.idiv, 1), some (.invokevirtual 115, 3), none, none, some (.imul, 1), some (.aload_n 3, 1), some (.getfield 119, 3), none, none, some (.iload 4, 2)], [none, some (.aload_n 3, 1), some (.getfield 122, 3), none, none, some (.isub, 1), some (.invokestatic 125, 3), none, none, some (.imul, 1), some (.isub, 1), some (.istore 6, 2), none, some (.iload 5, 2), none, some (.ifCond .eq 9, 3)], [none, none, some (.iload 5, 2), none, some (.iconst 3, 1), some (.if_icmp .ne 12, 3), none, none, some (.iload 6, 2), none, some (.aload_n 3, 1), some (.getfield 130, 3), none, none, some (.iadd, 1), some (.istore 6, 2)], [none, some (.iload 4, 2), none, some (.invokestatic 133, 3), none, none, some (.ifCond .eq 12, 3), none, none, some (.iload 6, 2), none, some (.aload_n 3, 1), some (.getfield 137, 3), none, none, some (.iadd, 1)], [some (.istore 6, 2), none, some (.iload 6, 2), none, some (.ireturn, 1)]]
/-- X5_joyOf -/
def jv_c66 : List (List jv_I) := [[some (.aload_n 0, 1), some (.iload_n 1, 1), some (.aload_n 0, 1), some (.iload_n 1, 1), some (.invokevirtual 64, 3), none, none, some (.getfield 83, 3), none, none, some (.invokevirtual 140, 3), none, none, some (.ireturn, 1)]]
/-- X5_relativesAt -/
def jv_c67 : List (List jv_I) := [[some (.aload_n 1, 1), some (.getfield 97, 3), none, none, some (.ifCond .ne 5, 3), none, none, some (.iconst 0, 1), some (.ireturn, 1), some (.aload_n 0, 1), some (.iload_n 2, 1), some (.aload_n 1, 1), some (.getfield 97, 3), none, none, some (.invokevirtual 144, 3)], [none, none, some (.istore_n 3, 1), some (.aload_n 1, 1), some (.getfield 83, 3), none, none, some (.bipush 8, 2), none, some (.idiv, 1), some (.iload_n 2, 1), some (.if_icmp .ne 9, 3), none, none, some (.iload_n 3, 1), some (.iconst 1, 1)], [some (.isub, 1), some (.goto 4, 3), none, none, some (.iload_n 3, 1), some (.ireturn, 1)]]
/-- X5_looksForward -/
def jv_c68 : List (List jv_I) := [[some (.iload_n 0, 1), some (.iconst 2, 1), some (.irem, 1), some (.iconst 1, 1), some (.if_icmp .ne 7, 3), none, none, some (.iconst 1, 1), some (.goto 4, 3), none, none, some (.iconst 0, 1), some (.ireturn, 1)]]
/-- X5_sumOfJoys -/
def jv_c69 : List (List jv_I) := [[some (.iconst 0, 1), some (.istore_n 1, 1), some (.iconst 0, 1), some (.istore_n 2, 1), some (.iload_n 2, 1), some (.aload_n 0, 1), some (.getfield 46, 3), none, none, some (.if_icmp .ge 17, 3), none, none, some (.iload_n 1, 1), some (.aload_n 0, 1), some (.iload_n 2, 1), some (.invokevirtual 147, 3)], [none, none, some (.iadd, 1), some (.istore_n 1, 1), some (.iinc 2 1, 3), none, none, some (.goto (-19), 3), none, none, some (.iload_n 1, 1), some (.ireturn, 1)]]
/-- X5_grumblers -/
def jv_c70 : List (List jv_I) := [[some (.iconst 0, 1), some (.istore_n 1, 1), some (.iconst 0, 1), some (.istore_n 2, 1), some (.iload_n 2, 1), some (.aload_n 0, 1), some (.getfield 46, 3), none, none, some (.if_icmp .ge 20, 3), none, none, some (.aload_n 0, 1), some (.iload_n 2, 1), some (.invokevirtual 147, 3), none], [none, some (.ifCond .ge 6, 3), none, none, some (.iinc 1 1, 3), none, none, some (.iinc 2 1, 3), none, none, some (.goto (-22), 3), none, none, some (.iload_n 1, 1), some (.ireturn, 1)]]
/-- X5_placeOf -/
def jv_c71 : List (List jv_I) := [[some (.aload_n 0, 1), some (.iload_n 1, 1), some (.invokevirtual 147, 3), none, none, some (.istore_n 2, 1), some (.iconst 0, 1), some (.istore_n 3, 1), some (.iconst 0, 1), some (.istore 4, 2), none, some (.iload 4, 2), none, some (.aload_n 0, 1), some (.getfield 46, 3), none], [none, some (.if_icmp .ge 38, 3), none, none, some (.aload_n 0, 1), some (.iload 4, 2), none, some (.invokevirtual 147, 3), none, none, some (.istore 5, 2), none, some (.iload 5, 2), none, some (.iload_n 2, 1), some (.if_icmp .gt 15, 3)], [none, none, some (.iload 5, 2), none, some (.iload_n 2, 1), some (.if_icmp .ne 12, 3), none, none, some (.iload 4, 2), none, some (.iload_n 1, 1), some (.if_icmp .ge 6, 3), none, none, some (.iinc 3 1, 3), none], [none, some (.iinc 4 1, 3), none, none, some (.goto (-41), 3), none, none, some (.iload_n 3, 1), some (.ireturn, 1)]]
/-- X5_whoIsAtPlace -/
def jv_c72 : List (List jv_I) := [[some (.iconst 0, 1), some (.istore_n 2, 1), some (.iload_n 2, 1), some (.aload_n 0, 1), some (.getfield 46, 3), none, none, some (.if_icmp .ge 20, 3), none, none, some (.aload_n 0, 1), some (.iload_n 2, 1), some (.invokevirtual 150, 3), none, none, some (.iload_n 1, 1)], [some (.if_icmp .ne 5, 3), none, none, some (.iload_n 2, 1), some (.ireturn, 1), some (.iinc 2 1, 3), none, none, some (.goto (-22), 3), none, none, some (.bipush (-2), 2), none, some (.ireturn, 1)]]
/-- X5_isAt -/
def jv_c73 : List (List jv_I) := [[some (.aload_n 0, 1), some (.iload_n 1, 1), some (.invokevirtual 64, 3), none, none, some (.getfield 83, 3), none, none, some (.bipush 8, 2), none, some (.idiv, 1), some (.iload_n 2, 1), some (.if_icmp .ne 7, 3), none, none, some (.iconst 1, 1)], [some (.goto 4, 3), none, none, some (.iconst 0, 1), some (.ireturn, 1)]]
/-- X5_travellersAt -/
def jv_c74 : List (List jv_I) := [[some (.iconst 0, 1), some (.istore_n 2, 1), some (.iconst 0, 1), some (.istore_n 3, 1), some (.iload_n 3, 1), some (.aload_n 0, 1), some (.getfield 46, 3), none, none, some (.if_icmp .ge 21, 3), none, none, some (.aload_n 0, 1), some (.iload_n 3, 1), some (.iload_n 1, 1), some (.invokevirtual 153, 3)], [none, none, some (.ifCond .eq 6, 3), none, none, some (.iinc 2 1, 3), none, none, some (.iinc 3 1, 3), none, none, some (.goto (-23), 3), none, none, some (.iload_n 2, 1), some (.ireturn, 1)]]
/-- X5_grumblersAt -/
def jv_c75 : List (List jv_I) := [[some (.iconst 0, 1), some (.istore_n 2, 1), some (.iconst 0, 1), some (.istore_n 3, 1), some (.iload_n 3, 1), some (.aload_n 0, 1), some (.getfield 46, 3), none, none, some (.if_icmp .ge 29, 3), none, none, some (.aload_n 0, 1), some (.iload_n 3, 1), some (.iload_n 1, 1), some (.invokevirtual 153, 3)], [none, none, some (.ifCond .eq 14, 3), none, none, some (.aload_n 0, 1), some (.iload_n 3, 1), some (.invokevirtual 147, 3), none, none, some (.ifCond .ge 6, 3), none, none, some (.iinc 2 1, 3), none, none], [some (.iinc 3 1, 3), none, none, some (.goto (-31), 3), none, none, some (.iload_n 2, 1), some (.ireturn, 1)]]
/-- X5_sumOfJoysAt -/
def jv_c76 : List (List jv_I) := [[some (.iconst 0, 1), some (.istore_n 2, 1), some (.iconst 0, 1), some (.istore_n 3, 1), some (.iload_n 3, 1), some (.aload_n 0, 1), some (.getfield 46, 3), none, none, some (.if_icmp .ge 26, 3), none, none, some (.aload_n 0, 1), some (.iload_n 3, 1), some (.iload_n 1, 1), some (.invokevirtual 153, 3)], [none, none, some (.ifCond .eq 11, 3), none, none, some (.iload_n 2, 1), some (.aload_n 0, 1), some (.iload_n 3, 1), some (.invokevirtual 147, 3), none, none, some (.iadd, 1), some (.istore_n 2, 1), some (.iinc 3 1, 3), none, none], [some (.goto (-28), 3), none, none, some (.iload_n 2, 1), some (.ireturn, 1)]]
/-- X5_greatestFamilyAt -/
def jv_c77 : List (List jv_I) := [[some (.iconst 0, 1), some (.istore_n 2, 1), some (.iconst 0, 1), some (.istore_n 3, 1), some (.iconst 1, 1), some (.istore 4, 2), none, some (.iload 4, 2), none, some (.bipush 9, 2), none, some (.if_icmp .gt 30, 3), none, none, some (.aload_n 0, 1), some (.iload_n 1, 1)], [some (.iload 4, 2), none, some (.invokevirtual 144, 3), none, none, some (.istore 5, 2), none, some (.iload 5, 2), none, some (.iload_n 3, 1), some (.if_icmp .le 9, 3), none, none, some (.iload 5, 2), none, some (.istore_n 3, 1)], [some (.iload 4, 2), none, some (.istore_n 2, 1), some (.iinc 4 1, 3), none, none, some (.goto (-31), 3), none, none, some (.iload_n 2, 1), some (.ireturn, 1)]]
/-- X5_membersOf -/
def jv_c78 : List (List jv_I) := [[some (.iconst 0, 1), some (.istore_n 2, 1), some (.iconst 0, 1), some (.istore_n 3, 1), some (.iload_n 3, 1), some (.iconst 5, 1), some (.if_icmp .ge 18, 3), none, none, some (.iload_n 2, 1), some (.aload_n 0, 1), some (.iload_n 3, 1), some (.iload_n 1, 1), some (.invokevirtual 144, 3), none, none], [some (.iadd, 1), some (.istore_n 2, 1), some (.iinc 3 1, 3), none, none, some (.goto (-17), 3), none, none, some (.iload_n 2, 1), some (.ireturn, 1)]]
/-- X5_tablesOf -/
def jv_c79 : List (List jv_I) := [[some (.iconst 0, 1), some (.istore_n 2, 1), some (.iconst 0, 1), some (.istore_n 3, 1), some (.iload_n 3, 1), some (.iconst 5, 1), some (.if_icmp .ge 21, 3), none, none, some (.aload_n 0, 1), some (.iload_n 3, 1), some (.iload_n 1, 1), some (.invokevirtual 144, 3), none, none, some (.ifCond .le 6, 3)], [none, none, some (.iinc 2 1, 3), none, none, some (.iinc 3 1, 3), none, none, some (.goto (-20), 3), none, none, some (.iload_n 2, 1), some (.ireturn, 1)]]
/-- X5_sumOfJoysOf -/
def jv_c80 : List (List jv_I) := [[some (.iconst 0, 1), some (.istore_n 2, 1), some (.iconst 0, 1), some (.istore_n 3, 1), some (.iload_n 3, 1), some (.aload_n 0, 1), some (.getfield 46, 3), none, none, some (.if_icmp .ge 29, 3), none, none, some (.aload_n 0, 1), some (.iload_n 3, 1), some (.invokevirtual 64, 3), none], [none, some (.getfield 97, 3), none, none, some (.iload_n 1, 1), some (.if_icmp .ne 11, 3), none, none, some (.iload_n 2, 1), some (.aload_n 0, 1), some (.iload_n 3, 1), some (.invokevirtual 147, 3), none, none, some (.iadd, 1), some (.istore_n 2, 1)], [some (.iinc 3 1, 3), none, none, some (.goto (-31), 3), none, none, some (.iload_n 2, 1), some (.ireturn, 1)]]
/-- X5_families -/
def jv_c81 : List (List jv_I) := [[some (.iconst 0, 1), some (.istore_n 1, 1), some (.iconst 1, 1), some (.istore_n 2, 1), some (.iload_n 2, 1), some (.bipush 9, 2), none, some (.if_icmp .gt 20, 3), none, none, some (.aload_n 0, 1), some (.iload_n 2, 1), some (.invokevirtual 156, 3), none, none, some (.ifCond .le 6, 3)], [none, none, some (.iinc 1 1, 3), none, none, some (.iinc 2 1, 3), none, none, some (.goto (-20), 3), none, none, some (.iload_n 1, 1), some (.ireturn, 1)]]
/-- X5_sumOfSweets -/
def jv_c82 : List (List jv_I) := [[some (.iconst 0, 1), some (.istore_n 1, 1), some (.iconst 0, 1), some (.istore_n 2, 1), some (.iload_n 2, 1), some (.aload_n 0, 1), some (.getfield 46, 3), none, none, some (.if_icmp .ge 20, 3), none, none, some (.iload_n 1, 1), some (.aload_n 0, 1), some (.iload_n 2, 1), some (.invokevirtual 64, 3)], [none, none, some (.getfield 159, 3), none, none, some (.iadd, 1), some (.istore_n 1, 1), some (.iinc 2 1, 3), none, none, some (.goto (-22), 3), none, none, some (.iload_n 1, 1), some (.ireturn, 1)]]
/-- X5_sitDown -/
def jv_c83 : List (List jv_I) := [[some (.aload_n 0, 1), some (.iload_n 1, 1), some (.invokevirtual 64, 3), none, none, some (.astore_n 3, 1), some (.aload_n 0, 1), some (.aload_n 3, 1), some (.iconst (-1), 1), some (.invokevirtual 100, 3), none, none, some (.aload_n 3, 1), some (.iload_n 2, 1), some (.putfield 83, 3), none], [none, some (.aload_n 0, 1), some (.aload_n 3, 1), some (.iconst 1, 1), some (.invokevirtual 100, 3), none, none, some (.return_, 1)]]
/-- X5_exchangeSeats -/
def jv_c84 : List (List jv_I) := [[some (.aload_n 0, 1), some (.iload_n 1, 1), some (.invokevirtual 64, 3), none, none, some (.getfield 83, 3), none, none, some (.istore_n 3, 1), some (.aload_n 0, 1), some (.iload_n 1, 1), some (.aload_n 0, 1), some (.iload_n 2, 1), some (.invokevirtual 64, 3), none, none], [some (.getfield 83, 3), none, none, some (.invokevirtual 162, 3), none, none, some (.aload_n 0, 1), some (.iload_n 2, 1), some (.iload_n 3, 1), some (.invokevirtual 162, 3), none, none, some (.return_, 1)]]
/-- X5_passSeats -/
def jv_c85 : List (List jv_I) := [[some (.aload_n 0, 1), some (.iload_n 1, 1), some (.invokevirtual 64, 3), none, none, some (.getfield 83, 3), none, none, some (.istore 4, 2), none, some (.aload_n 0, 1), some (.iload_n 1, 1), some (.aload_n 0, 1), some (.iload_n 2, 1), some (.invokevirtual 64, 3), none], [none, some (.getfield 83, 3), none, none, some (.invokevirtual 162, 3), none, none, some (.aload_n 0, 1), some (.iload_n 2, 1), some (.aload_n 0, 1), some (.iload_n 3, 1), some (.invokevirtual 64, 3), none, none, some (.getfield 83, 3), none], [none, some (.invokevirtual 162, 3), none, none, some (.aload_n 0, 1), some (.iload_n 3, 1), some (.iload 4, 2), none, some (.invokevirtual 162, 3), none, none, some (.return_, 1)]]
/-- X5_riseBySwap -/
def jv_c86 : List (List jv_I) := [[some (.aload_n 0, 1), some (.iload_n 1, 1), some (.invokevirtual 147, 3), none, none, some (.istore_n 3, 1), some (.aload_n 0, 1), some (.iload_n 1, 1), some (.iload_n 2, 1), some (.invokevirtual 166, 3), none, none, some (.aload_n 0, 1), some (.iload_n 1, 1), some (.invokevirtual 147, 3), none], [none, some (.iload_n 3, 1), some (.isub, 1), some (.istore 4, 2), none, some (.aload_n 0, 1), some (.iload_n 1, 1), some (.iload_n 2, 1), some (.invokevirtual 166, 3), none, none, some (.iload 4, 2), none, some (.ireturn, 1)]]
/-- X5_sumIfSwapped -/
def jv_c87 : List (List jv_I) := [[some (.aload_n 0, 1), some (.iload_n 1, 1), some (.iload_n 2, 1), some (.invokevirtual 166, 3), none, none, some (.aload_n 0, 1), some (.invokevirtual 169, 3), none, none, some (.istore_n 3, 1), some (.aload_n 0, 1), some (.iload_n 1, 1), some (.iload_n 2, 1), some (.invokevirtual 166, 3), none], [none, some (.iload_n 3, 1), some (.ireturn, 1)]]
/-- X5_swapReason -/
def jv_c88 : List (List jv_I) := [[some (.aload_n 0, 1), some (.iload_n 1, 1), some (.aload_n 0, 1), some (.iload_n 2, 1), some (.invokevirtual 64, 3), none, none, some (.getfield 83, 3), none, none, some (.invokevirtual 172, 3), none, none, some (.ifCond .eq 19, 3), none, none], [some (.aload_n 0, 1), some (.iload_n 2, 1), some (.aload_n 0, 1), some (.iload_n 1, 1), some (.invokevirtual 64, 3), none, none, some (.getfield 83, 3), none, none, some (.invokevirtual 172, 3), none, none, some (.ifCond .ne 5, 3), none, none], [some (.iconst 1, 1), some (.ireturn, 1), some (.aload_n 0, 1), some (.iload_n 1, 1), some (.invokevirtual 64, 3), none, none, some (.getfield 159, 3), none, none, some (.iload_n 3, 1), some (.if_icmp .ge 5, 3), none, none, some (.iconst 2, 1), some (.ireturn, 1)], [some (.aload_n 0, 1), some (.iload_n 1, 1), some (.invokevirtual 147, 3), none, none, some (.istore 4, 2), none, some (.aload_n 0, 1), some (.iload_n 2, 1), some (.invokevirtual 147, 3), none, none, some (.istore 5, 2), none, some (.aload_n 0, 1), some (.iload_n 1, 1)], [some (.iload_n 2, 1), some (.invokevirtual 166, 3), none, none, some (.aload_n 0, 1), some (.iload_n 1, 1), some (.invokevirtual 147, 3), none, none, some (.iload 4, 2), none, some (.isub, 1), some (.istore 6, 2), none, some (.aload_n 0, 1), some (.iload_n 2, 1)], [some (.invokevirtual 147, 3), none, none, some (.iload 5, 2), none, some (.isub, 1), some (.istore 7, 2), none, some (.aload_n 0, 1), some (.iload_n 1, 1), some (.iload_n 2, 1), some (.invokevirtual 166, 3), none, none, some (.iload 6, 2), none], [some (.iload_n 3, 1), some (.if_icmp .ge 5, 3), none, none, some (.iconst 3, 1), some (.ireturn, 1), some (.iload 7, 2), none, some (.iload_n 3, 1), some (.ineg, 1), some (.if_icmp .ge 7, 3), none, none, some (.iconst 4, 1), some (.goto 4, 3), none], [none, some (.iconst 0, 1), some (.ireturn, 1)]]
/-- X5_doSwap -/
def jv_c89 : List (List jv_I) := [[some (.aload_n 0, 1), some (.iload_n 1, 1), some (.iload_n 2, 1), some (.invokevirtual 166, 3), none, none, some (.aload_n 0, 1), some (.iload_n 1, 1), some (.invokevirtual 64, 3), none, none, some (.dup, 1), some (.getfield 159, 3), none, none, some (.iload_n 3, 1)], [some (.isub, 1), some (.putfield 159, 3), none, none, some (.aload_n 0, 1), some (.iload_n 2, 1), some (.invokevirtual 64, 3), none, none, some (.dup, 1), some (.getfield 159, 3), none, none, some (.iload_n 3, 1), some (.iadd, 1), some (.putfield 159, 3)], [none, none, some (.aload_n 0, 1), some (.dup, 1), some (.getfield 49, 3), none, none, some (.iconst 1, 1), some (.iadd, 1), some (.putfield 49, 3), none, none, some (.aload_n 0, 1), some (.dup, 1), some (.getfield 58, 3), none], [none, some (.iload_n 3, 1), some (.iadd, 1), some (.putfield 58, 3), none, none, some (.aload_n 0, 1), some (.getfield 29, 3), none, none, some (.iconst 1, 1), some (.bipush 100, 2), none, some (.iload_n 1, 1), some (.imul, 1), some (.iload_n 2, 1)], [some (.iadd, 1), some (.iload_n 3, 1), some (.invokevirtual 104, 3), none, none, some (.return_, 1)]]
/-- X5_moveReason -/
def jv_c90 : List (List jv_I) := [[some (.aload_n 0, 1), some (.iload_n 2, 1), some (.invokevirtual 175, 3), none, none, some (.ifCond .ne 5, 3), none, none, some (.iconst 5, 1), some (.ireturn, 1), some (.aload_n 0, 1), some (.iload_n 1, 1), some (.iload_n 2, 1), some (.invokevirtual 172, 3), none, none], [some (.ifCond .ne 5, 3), none, none, some (.iconst 1, 1), some (.ireturn, 1), some (.aload_n 0, 1), some (.iload_n 1, 1), some (.iload_n 2, 1), some (.invokevirtual 140, 3), none, none, some (.aload_n 0, 1), some (.iload_n 1, 1), some (.invokevirtual 147, 3), none, none], [some (.if_icmp .ge 8, 3), none, none, some (.bipush 6, 2), none, some (.goto 4, 3), none, none, some (.iconst 0, 1), some (.ireturn, 1)]]
/-- X5_doMove -/
def jv_c91 : List (List jv_I) := [[some (.aload_n 0, 1), some (.iload_n 1, 1), some (.invokevirtual 64, 3), none, none, some (.getfield 83, 3), none, none, some (.istore_n 3, 1), some (.aload_n 0, 1), some (.iload_n 1, 1), some (.iload_n 2, 1), some (.invokevirtual 162, 3), none, none, some (.aload_n 0, 1)], [some (.dup, 1), some (.getfield 52, 3), none, none, some (.iconst 1, 1), some (.iadd, 1), some (.putfield 52, 3), none, none, some (.aload_n 0, 1), some (.getfield 29, 3), none, none, some (.iconst 2, 1), some (.iload_n 1, 1), some (.iload_n 3, 1)], [some (.invokevirtual 104, 3), none, none, some (.return_, 1)]]
/-- X5_ringReason -/
def jv_c92 : List (List jv_I) := [[some (.aload_n 0, 1), some (.iload_n 1, 1), some (.aload_n 0, 1), some (.iload_n 2, 1), some (.invokevirtual 64, 3), none, none, some (.getfield 83, 3), none, none, some (.invokevirtual 172, 3), none, none, some (.ifCond .eq 35, 3), none, none], [some (.aload_n 0, 1), some (.iload_n 2, 1), some (.aload_n 0, 1), some (.iload_n 3, 1), some (.invokevirtual 64, 3), none, none, some (.getfield 83, 3), none, none, some (.invokevirtual 172, 3), none, none, some (.ifCond .eq 19, 3), none, none], [some (.aload_n 0, 1), some (.iload_n 3, 1), some (.aload_n 0, 1), some (.iload_n 1, 1), some (.invokevirtual 64, 3), none, none, some (.getfield 83, 3), none, none, some (.invokevirtual 172, 3), none, none, some (.ifCond .ne 5, 3), none, none], [some (.iconst 1, 1), some (.ireturn, 1), some (.aload_n 0, 1), some (.iload_n 1, 1), some (.invokevirtual 147, 3), none, none, some (.istore 4, 2), none, some (.aload_n 0, 1), some (.iload_n 2, 1), some (.invokevirtual 147, 3), none, none, some (.istore 5, 2), none], [some (.aload_n 0, 1), some (.iload_n 3, 1), some (.invokevirtual 147, 3), none, none, some (.istore 6, 2), none, some (.aload_n 0, 1), some (.iload_n 1, 1), some (.iload_n 2, 1), some (.iload_n 3, 1), some (.invokevirtual 178, 3), none, none, some (.aload_n 0, 1), some (.iload_n 1, 1)], [some (.invokevirtual 147, 3), none, none, some (.iload 4, 2), none, some (.if_icmp .lt 23, 3), none, none, some (.aload_n 0, 1), some (.iload_n 2, 1), some (.invokevirtual 147, 3), none, none, some (.iload 5, 2), none, some (.if_icmp .lt 13, 3)], [none, none, some (.aload_n 0, 1), some (.iload_n 3, 1), some (.invokevirtual 147, 3), none, none, some (.iload 6, 2), none, some (.if_icmp .ge 7, 3), none, none, some (.iconst 1, 1), some (.goto 4, 3), none, none], [some (.iconst 0, 1), some (.istore 7, 2), none, some (.aload_n 0, 1), some (.iload_n 3, 1), some (.iload_n 2, 1), some (.iload_n 1, 1), some (.invokevirtual 178, 3), none, none, some (.iload 7, 2), none, some (.ifCond .eq 8, 3), none, none, some (.bipush 6, 2)], [none, some (.goto 4, 3), none, none, some (.iconst 0, 1), some (.ireturn, 1)]]
/-- X5_riseByRing -/
def jv_c93 : List (List jv_I) := [[some (.aload_n 0, 1), some (.iload_n 1, 1), some (.invokevirtual 147, 3), none, none, some (.aload_n 0, 1), some (.iload_n 2, 1), some (.invokevirtual 147, 3), none, none, some (.iadd, 1), some (.aload_n 0, 1), some (.iload_n 3, 1), some (.invokevirtual 147, 3), none, none], [some (.iadd, 1), some (.istore 4, 2), none, some (.aload_n 0, 1), some (.iload_n 1, 1), some (.iload_n 2, 1), some (.iload_n 3, 1), some (.invokevirtual 178, 3), none, none, some (.aload_n 0, 1), some (.iload_n 1, 1), some (.invokevirtual 147, 3), none, none, some (.aload_n 0, 1)], [some (.iload_n 2, 1), some (.invokevirtual 147, 3), none, none, some (.iadd, 1), some (.aload_n 0, 1), some (.iload_n 3, 1), some (.invokevirtual 147, 3), none, none, some (.iadd, 1), some (.iload 4, 2), none, some (.isub, 1), some (.istore 5, 2), none], [some (.aload_n 0, 1), some (.iload_n 3, 1), some (.iload_n 2, 1), some (.iload_n 1, 1), some (.invokevirtual 178, 3), none, none, some (.iload 5, 2), none, some (.ireturn, 1)]]
/-- X5_doRing -/
def jv_c94 : List (List jv_I) := [[some (.aload_n 0, 1), some (.iload_n 1, 1), some (.iload_n 2, 1), some (.iload_n 3, 1), some (.invokevirtual 178, 3), none, none, some (.aload_n 0, 1), some (.dup, 1), some (.getfield 55, 3), none, none, some (.iconst 1, 1), some (.iadd, 1), some (.putfield 55, 3), none], [none, some (.aload_n 0, 1), some (.getfield 29, 3), none, none, some (.iconst 3, 1), some (.sipush 10000, 3), none, none, some (.iload_n 1, 1), some (.imul, 1), some (.bipush 100, 2), none, some (.iload_n 2, 1), some (.imul, 1), some (.iadd, 1)], [some (.iload_n 3, 1), some (.iadd, 1), some (.iconst 0, 1), some (.invokevirtual 104, 3), none, none, some (.return_, 1)]]
/-- X5_risingRings -/
def jv_c95 : List (List jv_I) := [[some (.iconst 0, 1), some (.istore_n 1, 1), some (.iconst 0, 1), some (.istore_n 2, 1), some (.iload_n 2, 1), some (.aload_n 0, 1), some (.getfield 46, 3), none, none, some (.if_icmp .ge 78, 3), none, none, some (.iload_n 2, 1), some (.iconst 1, 1), some (.iadd, 1), some (.istore_n 3, 1)], [some (.iload_n 3, 1), some (.aload_n 0, 1), some (.getfield 46, 3), none, none, some (.if_icmp .ge 60, 3), none, none, some (.iload_n 2, 1), some (.iconst 1, 1), some (.iadd, 1), some (.istore 4, 2), none, some (.iload 4, 2), none, some (.aload_n 0, 1)], [some (.getfield 46, 3), none, none, some (.if_icmp .ge 40, 3), none, none, some (.iload_n 3, 1), some (.iload 4, 2), none, some (.if_icmp .eq 28, 3), none, none, some (.aload_n 0, 1), some (.iload_n 2, 1), some (.iload_n 3, 1), some (.iload 4, 2)], [none, some (.invokevirtual 181, 3), none, none, some (.ifCond .ne 17, 3), none, none, some (.aload_n 0, 1), some (.iload_n 2, 1), some (.iload_n 3, 1), some (.iload 4, 2), none, some (.invokevirtual 185, 3), none, none, some (.ifCond .le 6, 3)], [none, none, some (.iinc 1 1, 3), none, none, some (.iinc 4 1, 3), none, none, some (.goto (-43), 3), none, none, some (.iinc 3 1, 3), none, none, some (.goto (-62), 3), none], [none, some (.iinc 2 1, 3), none, none, some (.goto (-80), 3), none, none, some (.iload_n 1, 1), some (.ireturn, 1)]]
/-- X5_bestSeatFor -/
def jv_c96 : List (List jv_I) := [[some (.bipush (-2), 2), none, some (.istore_n 2, 1), some (.iconst 0, 1), some (.istore_n 3, 1), some (.iconst 0, 1), some (.istore 4, 2), none, some (.iload 4, 2), none, some (.aload_n 0, 1), some (.invokevirtual 75, 3), none, none, some (.if_icmp .ge 46, 3), none], [none, some (.aload_n 0, 1), some (.iload_n 1, 1), some (.iload 4, 2), none, some (.invokevirtual 188, 3), none, none, some (.ifCond .ne 30, 3), none, none, some (.aload_n 0, 1), some (.iload_n 1, 1), some (.iload 4, 2), none, some (.invokevirtual 140, 3)], [none, none, some (.istore 5, 2), none, some (.iload_n 2, 1), some (.bipush (-2), 2), none, some (.if_icmp .eq 9, 3), none, none, some (.iload 5, 2), none, some (.iload_n 3, 1), some (.if_icmp .le 9, 3), none, none], [some (.iload 4, 2), none, some (.istore_n 2, 1), some (.iload 5, 2), none, some (.istore_n 3, 1), some (.iinc 4 1, 3), none, none, some (.goto (-49), 3), none, none, some (.iload_n 2, 1), some (.ireturn, 1)]]
/-- X5_partnerFor -/
def jv_c97 : List (List jv_I) := [[some (.bipush (-2), 2), none, some (.istore_n 2, 1), some (.iconst 0, 1), some (.istore_n 3, 1), some (.iconst 0, 1), some (.istore 4, 2), none, some (.iload 4, 2), none, some (.aload_n 0, 1), some (.getfield 46, 3), none, none, some (.if_icmp .ge 47, 3), none], [none, some (.iload 4, 2), none, some (.iload_n 1, 1), some (.if_icmp .eq 35, 3), none, none, some (.aload_n 0, 1), some (.iload_n 1, 1), some (.iload 4, 2), none, some (.iconst 0, 1), some (.invokevirtual 191, 3), none, none, some (.ifCond .ne 24, 3)], [none, none, some (.aload_n 0, 1), some (.iload_n 1, 1), some (.iload 4, 2), none, some (.invokevirtual 194, 3), none, none, some (.istore 5, 2), none, some (.iload 5, 2), none, some (.iload_n 3, 1), some (.if_icmp .le 9, 3), none], [none, some (.iload 4, 2), none, some (.istore_n 2, 1), some (.iload 5, 2), none, some (.istore_n 3, 1), some (.iinc 4 1, 3), none, none, some (.goto (-50), 3), none, none, some (.iload_n 2, 1), some (.ireturn, 1)]]
/-- X5_settleOnce -/
def jv_c98 : List (List jv_I) := [[some (.aload_n 0, 1), some (.invokevirtual 169, 3), none, none, some (.istore_n 1, 1), some (.bipush (-2), 2), none, some (.istore_n 2, 1), some (.bipush (-2), 2), none, some (.istore_n 3, 1), some (.iconst 0, 1), some (.istore 4, 2), none, some (.iload 4, 2), none], [some (.aload_n 0, 1), some (.getfield 46, 3), none, none, some (.if_icmp .ge 82, 3), none, none, some (.iload 4, 2), none, some (.iconst 1, 1), some (.iadd, 1), some (.istore 5, 2), none, some (.iload 5, 2), none, some (.aload_n 0, 1)], [some (.getfield 46, 3), none, none, some (.if_icmp .ge 61, 3), none, none, some (.aload_n 0, 1), some (.iload 4, 2), none, some (.iload 5, 2), none, some (.iconst 0, 1), some (.invokevirtual 191, 3), none, none, some (.ifCond .eq 6, 3)], [none, none, some (.goto 40, 3), none, none, some (.aload_n 0, 1), some (.iload 4, 2), none, some (.iload 5, 2), none, some (.invokevirtual 166, 3), none, none, some (.aload_n 0, 1), some (.invokevirtual 169, 3), none], [none, some (.istore 6, 2), none, some (.aload_n 0, 1), some (.iload 4, 2), none, some (.iload 5, 2), none, some (.invokevirtual 166, 3), none, none, some (.iload 6, 2), none, some (.iload_n 1, 1), some (.if_icmp .le 12, 3), none], [none, some (.iload 6, 2), none, some (.istore_n 1, 1), some (.iload 4, 2), none, some (.istore_n 2, 1), some (.iload 5, 2), none, some (.istore_n 3, 1), some (.iinc 5 1, 3), none, none, some (.goto (-64), 3), none, none], [some (.iinc 4 1, 3), none, none, some (.goto (-85), 3), none, none, some (.iload_n 2, 1), some (.bipush (-2), 2), none, some (.if_icmp .ne 5, 3), none, none, some (.iconst 0, 1), some (.ireturn, 1), some (.aload_n 0, 1), some (.iload_n 2, 1)], [some (.iload_n 3, 1), some (.invokevirtual 166, 3), none, none, some (.iconst 1, 1), some (.ireturn, 1)]]
/-- X5_planSign -/
def jv_c99 : List (List jv_I) := [[some (.iload_n 2, 1), some (.lookupswitch 69 #[(0, 35), (1, 51), (6, 66)], 35), none, none, none, none, none, none, none, none, none, none, none, none, none, none], [none, none, none, none, none, none, none, none, none, none, none, none, none, none, none, none], [none, none, none, none, some (.iload_n 1, 1), some (.aload_n 0, 1), some (.getfield 37, 3), none, none, some (.if_icmp .ge 8, 3), none, none, some (.bipush 61, 2), none, some (.goto 5, 3), none], [none, some (.bipush 45, 2), none, some (.ireturn, 1), some (.iload_n 1, 1), some (.invokestatic 133, 3), none, none, some (.ifCond .eq 8, 3), none, none, some (.bipush 62, 2), none, some (.goto 5, 3), none, none], [some (.bipush 60, 2), none, some (.ireturn, 1), some (.bipush 10, 2), none, some (.ireturn, 1), some (.aload_n 0, 1), some (.iload_n 1, 1), some (.iconst 4, 1), some (.imul, 1), some (.iload_n 2, 1), some (.iadd, 1), some (.iconst 2, 1), some (.isub, 1), some (.invokevirtual 197, 3), none], [none, some (.ireturn, 1)]]
/-- X5_seatSign -/
def jv_c100 : List (List jv_I) := [[some (.aload_n 0, 1), some (.iload_n 1, 1), some (.invokevirtual 86, 3), none, none, some (.istore_n 2, 1), some (.iload_n 2, 1), some (.bipush (-2), 2), none, some (.if_icmp .ne 6, 3), none, none, some (.bipush 46, 2), none, some (.ireturn, 1), some (.aload_n 0, 1)], [some (.iload_n 2, 1), some (.invokevirtual 147, 3), none, none, some (.ifCond .ge 8, 3), none, none, some (.bipush 65, 2), none, some (.goto 5, 3), none, none, some (.bipush 97, 2), none, some (.aload_n 0, 1), some (.iload_n 2, 1)], [some (.invokevirtual 64, 3), none, none, some (.iconst 0, 1), some (.invokevirtual 200, 3), none, none, some (.iadd, 1), some (.iconst 1, 1), some (.isub, 1), some (.ireturn, 1)]]
/-- X6_init -/
def jv_c101 : List (List jv_I) := [[some (.aload_n 0, 1), some (.invokespecial 3, 3), none, none, some (.return_, 1)]]
/-- X6_clear -/
def jv_c102 : List (List jv_I) := [[some (.aload_n 0, 1), some (.iconst 0, 1), some (.putfield 9, 3), none, none, some (.aload_n 0, 1), some (.iconst 0, 1), some (.putfield 15, 3), none, none, some (.aload_n 0, 1), some (.iconst 0, 1), some (.putfield 18, 3), none, none, some (.aload_n 0, 1)], [some (.iconst 0, 1), some (.putfield 21, 3), none, none, some (.aload_n 0, 1), some (.iconst 0, 1), some (.putfield 24, 3), none, none, some (.aload_n 0, 1), some (.iconst 0, 1), some (.putfield 27, 3), none, none, some (.aload_n 0, 1), some (.iconst 0, 1)], [some (.putfield 30, 3), none, none, some (.aload_n 0, 1), some (.iconst 0, 1), some (.putfield 33, 3), none, none, some (.aload_n 0, 1), some (.iconst 0, 1), some (.putfield 36, 3), none, none, some (.aload_n 0, 1), some (.bipush 99, 2), none], [some (.putfield 39, 3), none, none, some (.return_, 1)]]
/-- X6_copyFrom -/
def jv_c103 : List (List jv_I) := [[some (.aload_n 0, 1), some (.aload_n 1, 1), some (.getfield 9, 3), none, none, some (.putfield 9, 3), none, none, some (.aload_n 0, 1), some (.aload_n 1, 1), some (.getfield 15, 3), none, none, some (.putfield 15, 3), none, none], [some (.aload_n 0, 1), some (.aload_n 1, 1), some (.getfield 18, 3), none, none, some (.putfield 18, 3), none, none, some (.aload_n 0, 1), some (.aload_n 1, 1), some (.getfield 21, 3), none, none, some (.putfield 21, 3), none, none], [some (.aload_n 0, 1), some (.aload_n 1, 1), some (.getfield 24, 3), none, none, some (.putfield 24, 3), none, none, some (.aload_n 0, 1), some (.aload_n 1, 1), some (.getfield 27, 3), none, none, some (.putfield 27, 3), none, none], [some (.aload_n 0, 1), some (.aload_n 1, 1), some (.getfield 30, 3), none, none, some (.putfield 30, 3), none, none, some (.aload_n 0, 1), some (.aload_n 1, 1), some (.getfield 33, 3), none, none, some (.putfield 33, 3), none, none], [some (.aload_n 0, 1), some (.aload_n 1, 1), some (.getfield 36, 3), none, none, some (.putfield 36, 3), none, none, some (.aload_n 0, 1), some (.aload_n 1, 1), some (.getfield 39, 3), none, none, some (.putfield 39, 3), none, none], [some (.return_, 1)]]
/-- X6_settable -/
def jv_c104 : List (List jv_I) := [[some (.iload_n 1, 1), some (.tableswitch 51 0 3 #[31, 36, 41, 46], 31), none, none, none, none, none, none, none, none, none, none, none, none, none, none], [none, none, none, none, none, none, none, none, none, none, none, none, none, none, none, none], [some (.aload_n 0, 1), some (.getfield 24, 3), none, none, some (.ireturn, 1), some (.aload_n 0, 1), some (.getfield 27, 3), none, none, some (.ireturn, 1), some (.aload_n 0, 1), some (.getfield 30, 3), none, none, some (.ireturn, 1), some (.aload_n 0, 1)], [some (.getfield 33, 3), none, none, some (.ireturn, 1), some (.aload_n 0, 1), some (.getfield 18, 3), none, none, some (.ireturn, 1)]]
/-- X6_change -/
def jv_c105 : List (List jv_I) := [[some (.iload_n 1, 1), some (.tableswitch 63 0 3 #[31, 39, 47, 55], 31), none, none, none, none, none, none, none, none, none, none, none, none, none, none], [none, none, none, none, none, none, none, none, none, none, none, none, none, none, none, none], [some (.aload_n 0, 1), some (.iload_n 2, 1), some (.putfield 24, 3), none, none, some (.goto 32, 3), none, none, some (.aload_n 0, 1), some (.iload_n 2, 1), some (.putfield 27, 3), none, none, some (.goto 24, 3), none, none], [some (.aload_n 0, 1), some (.iload_n 2, 1), some (.putfield 30, 3), none, none, some (.goto 16, 3), none, none, some (.aload_n 0, 1), some (.iload_n 2, 1), some (.putfield 33, 3), none, none, some (.goto 8, 3), none, none], [some (.aload_n 0, 1), some (.iload_n 2, 1), some (.putfield 18, 3), none, none, some (.return_, 1)]]
/-- X6_letterAt -/
def jv_c106 : List (List jv_I) := [[some (.iload_n 1, 1), some (.iconst 5, 1), some (.if_icmp .ge 17, 3), none, none, some (.aload_n 0, 1), some (.getfield 9, 3), none, none, some (.iconst 5, 1), some (.iload_n 1, 1), some (.imul, 1), some (.ishr, 1), some (.bipush 31, 2), none, some (.iand, 1)], [some (.goto 4, 3), none, none, some (.iconst 0, 1), some (.ireturn, 1)]]
/-- X7_init -/
def jv_c107 : List (List jv_I) := [[some (.aload_n 0, 1), some (.invokespecial 1, 3), none, none, some (.aload_n 0, 1), some (.new 7, 3), none, none, some (.dup, 1), some (.invokespecial 9, 3), none, none, some (.putfield 10, 3), none, none, some (.aload_n 0, 1)], [some (.aload_n 0, 1), some (.getfield 10, 3), none, none, some (.getfield 16, 3), none, none, some (.putfield 20, 3), none, none, some (.aload_n 0, 1), some (.new 21, 3), none, none, some (.dup, 1), some (.invokespecial 23, 3)], [none, none, some (.putfield 24, 3), none, none, some (.aload_n 0, 1), some (.new 28, 3), none, none, some (.dup, 1), some (.invokespecial 30, 3), none, none, some (.putfield 31, 3), none, none], [some (.aload_n 0, 1), some (.new 28, 3), none, none, some (.dup, 1), some (.invokespecial 30, 3), none, none, some (.putfield 35, 3), none, none, some (.aload_n 0, 1), some (.new 38, 3), none, none, some (.dup, 1)], [some (.invokespecial 40, 3), none, none, some (.putfield 41, 3), none, none, some (.aload_n 0, 1), some (.iconst 2, 1), some (.anewarray 28, 3), none, none, some (.putfield 45, 3), none, none, some (.iconst 0, 1), some (.istore_n 1, 1)], [some (.iload_n 1, 1), some (.iconst 2, 1), some (.if_icmp .ge 22, 3), none, none, some (.aload_n 0, 1), some (.getfield 45, 3), none, none, some (.iload_n 1, 1), some (.new 28, 3), none, none, some (.dup, 1), some (.invokespecial 30, 3), none], [none, some (.aastore, 1), some (.iinc 1 1, 3), none, none, some (.goto (-21), 3), none, none, some (.aload_n 0, 1), some (.iconst 2, 1), some (.newarray .boolean, 2), none, some (.putfield 49, 3), none, none, some (.aload_n 0, 1)], [some (.new 53, 3), none, none, some (.dup, 1), some (.invokespecial 55, 3), none, none, some (.putfield 56, 3), none, none, some (.aload_n 0, 1), some (.bipush (-2), 2), none, some (.putfield 60, 3), none, none], [some (.return_, 1)]]
/-- X7_append -/
def jv_c108 : List (List jv_I) := [[some (.aload_n 0, 1), some (.getfield 20, 3), none, none, some (.invokevirtual 64, 3), none, none, some (.ifCond .ne 5, 3), none, none, some (.iconst (-1), 1), some (.ireturn, 1), some (.aload_n 0, 1), some (.getfield 20, 3), none, none], [some (.iload_n 1, 1), some (.invokevirtual 70, 3), none, none, some (.aload_n 0, 1), some (.getfield 20, 3), none, none, some (.iload_n 2, 1), some (.invokevirtual 70, 3), none, none, some (.aload_n 0, 1), some (.getfield 20, 3), none, none], [some (.iload_n 3, 1), some (.invokevirtual 70, 3), none, none, some (.aload_n 0, 1), some (.getfield 20, 3), none, none, some (.iload 4, 2), none, some (.invokevirtual 70, 3), none, none, some (.aload_n 0, 1), some (.getfield 20, 3), none], [none, some (.iload 5, 2), none, some (.invokevirtual 70, 3), none, none, some (.aload_n 0, 1), some (.getfield 20, 3), none, none, some (.getfield 74, 3), none, none, some (.ireturn, 1)]]
/-- X7_truncate -/
def jv_c109 : List (List jv_I) := [[some (.iload_n 1, 1), some (.iconst 0, 1), some (.aload_n 0, 1), some (.getfield 20, 3), none, none, some (.getfield 74, 3), none, none, some (.invokestatic 77, 3), none, none, some (.ifCond .ne 5, 3), none, none, some (.iconst (-1), 1)], [some (.ireturn, 1), some (.aload_n 0, 1), some (.getfield 20, 3), none, none, some (.dup, 1), some (.getfield 74, 3), none, none, some (.iload_n 1, 1), some (.isub, 1), some (.putfield 74, 3), none, none, some (.aload_n 0, 1), some (.getfield 20, 3)], [none, none, some (.getfield 74, 3), none, none, some (.ireturn, 1)]]
/-- X7_load -/
def jv_c110 : List (List jv_I) := [[some (.aload_n 0, 1), some (.getfield 10, 3), none, none, some (.aload_n 0, 1), some (.getfield 35, 3), none, none, some (.invokevirtual 81, 3), none, none, some (.istore_n 1, 1), some (.aload_n 0, 1), some (.iload_n 1, 1), some (.ifCond .eq 8, 3), none], [none, some (.bipush (-2), 2), none, some (.goto 10, 3), none, none, some (.aload_n 0, 1), some (.getfield 10, 3), none, none, some (.getfield 85, 3), none, none, some (.putfield 60, 3), none, none], [some (.aload_n 0, 1), some (.getfield 20, 3), none, none, some (.iconst 0, 1), some (.putfield 74, 3), none, none, some (.iload_n 1, 1), some (.ifCond .ne 5, 3), none, none, some (.iconst (-1), 1), some (.ireturn, 1), some (.aload_n 0, 1), some (.getfield 31, 3)], [none, none, some (.aload_n 0, 1), some (.getfield 35, 3), none, none, some (.invokevirtual 88, 3), none, none, some (.iconst 0, 1), some (.istore_n 2, 1), some (.iload_n 2, 1), some (.iconst 2, 1), some (.if_icmp .ge 16, 3), none, none], [some (.aload_n 0, 1), some (.getfield 49, 3), none, none, some (.iload_n 2, 1), some (.iconst 0, 1), some (.bastore, 1), some (.iinc 2 1, 3), none, none, some (.goto (-15), 3), none, none, some (.aload_n 0, 1), some (.getfield 56, 3), none], [none, some (.invokevirtual 92, 3), none, none, some (.aload_n 0, 1), some (.getfield 31, 3), none, none, some (.getfield 95, 3), none, none, some (.ireturn, 1)]]
/-- X7_errorPosition -/
def jv_c111 : List (List jv_I) := [[some (.aload_n 0, 1), some (.getfield 60, 3), none, none, some (.ireturn, 1)]]
/-- X7_come -/
def jv_c112_0 : List (List jv_I) := [[some (.aload_n 0, 1), some (.getfield 31, 3), none, none, some (.iload_n 1, 1), some (.invokevirtual 98, 3), none, none, some (.ifCond .eq 54, 3), none, none, some (.iload_n 2, 1), some (.iconst 0, 1), some (.iconst 1, 1), some (.invokestatic 77, 3), none], [none, some (.ifCond .eq 45, 3), none, none, some (.iload_n 3, 1), some (.iconst 0, 1), some (.bipush 9, 2), none, some (.invokestatic 77, 3), none, none, some (.ifCond .eq 35, 3), none, none, some (.iload 4, 2), none], [some (.iconst 0, 1), some (.bipush 99, 2), none, some (.invokestatic 77, 3), none, none, some (.ifCond .eq 24, 3), none, none, some (.iload 5, 2), none, some (.iconst 1, 1), some (.bipush 99, 2), none, some (.invokestatic 77, 3), none], [none, some (.ifCond .eq 13, 3), none, none, some (.aload_n 0, 1), some (.getfield 10, 3), none, none, some (.invokevirtual 102, 3), none, none, some (.ifCond .ne 5, 3), none, none, some (.iconst (-1), 1), some (.ireturn, 1)], [some (.aload_n 0, 1), some (.getfield 31, 3), none, none, some (.getfield 95, 3), none, none, some (.bipush 20, 2), none, some (.if_icmp .lt 6, 3), none, none, some (.bipush (-3), 2), none, some (.ireturn, 1), some (.aload_n 0, 1)], [some (.getfield 31, 3), none, none, some (.iload_n 1, 1), some (.invokevirtual 105, 3), none, none, some (.ifCond .eq 15, 3), none, none, some (.aload_n 0, 1), some (.getfield 31, 3), none, none, some (.iload_n 2, 1), some (.iload_n 1, 1)], [some (.invokevirtual 108, 3), none, none, some (.ifCond .ne 6, 3), none, none, some (.bipush (-4), 2), none, some (.ireturn, 1), some (.aload_n 0, 1), some (.getfield 56, 3), none, none, some (.aload_n 0, 1), some (.getfield 31, 3), none], [none, some (.invokevirtual 112, 3), none, none, some (.aload_n 0, 1), some (.getfield 41, 3), none, none, some (.invokevirtual 115, 3), none, none, some (.aload_n 0, 1), some (.getfield 41, 3), none, none, some (.aload_n 0, 1)], [some (.getfield 10, 3), none, none, some (.invokevirtual 118, 3), none, none, some (.putfield 122, 3), none, none, some (.aload_n 0, 1), some (.getfield 41, 3), none, none, some (.iload_n 1, 1), some (.putfield 125, 3), none], [none, some (.aload_n 0, 1), some (.getfield 41, 3), none, none, some (.iload_n 2, 1), some (.putfield 128, 3), none, none, some (.aload_n 0, 1), some (.getfield 41, 3), none, none, some (.iload_n 3, 1), some (.putfield 131, 3), none], [none, some (.aload_n 0, 1), some (.getfield 41, 3), none, none, some (.iload 4, 2), none, some (.putfield 134, 3), none, none, some (.aload_n 0, 1), some (.getfield 41, 3), none, none, some (.iload 5, 2), none], [some (.putfield 137, 3), none, none, some (.aload_n 0, 1), some (.getfield 31, 3), none, none, some (.getfield 95, 3), none, none, some (.istore 6, 2), none, some (.aload_n 0, 1), some (.getfield 31, 3), none, none]]
def jv_c112_1 : List (List jv_I) := [[some (.aload_n 0, 1), some (.getfield 41, 3), none, none, some (.invokevirtual 140, 3), none, none, some (.aload_n 0, 1), some (.getfield 31, 3), none, none, some (.getfield 144, 3), none, none, some (.iconst 0, 1), some (.iload 6, 2)], [none, some (.iload_n 1, 1), some (.invokevirtual 150, 3), none, none, some (.aload_n 0, 1), some (.getfield 20, 3), none, none, some (.iconst 0, 1), some (.putfield 74, 3), none, none, some (.iload 6, 2), none, some (.ireturn, 1)]]
def jv_c112 : List (List jv_I) := jv_c112_0 ++ jv_c112_1
/-- X7_set -/
def jv_c113 : List (List jv_I) := [[some (.aload_n 0, 1), some (.getfield 31, 3), none, none, some (.iload_n 1, 1), some (.invokevirtual 154, 3), none, none, some (.ifCond .eq 15, 3), none, none, some (.aload_n 0, 1), some (.getfield 31, 3), none, none, some (.iload_n 2, 1)], [some (.iload_n 3, 1), some (.invokevirtual 157, 3), none, none, some (.ifCond .ne 5, 3), none, none, some (.iconst (-1), 1), some (.ireturn, 1), some (.aload_n 0, 1), some (.getfield 31, 3), none, none, some (.iload_n 1, 1), some (.invokevirtual 160, 3), none], [none, some (.astore 4, 2), none, some (.aload 4, 2), none, some (.iload_n 2, 1), some (.invokevirtual 164, 3), none, none, some (.istore 5, 2), none, some (.iload 5, 2), none, some (.iload_n 3, 1), some (.if_icmp .ne 6, 3), none], [none, some (.bipush (-2), 2), none, some (.ireturn, 1), some (.iload_n 2, 1), some (.iconst 4, 1), some (.if_icmp .ne 22, 3), none, none, some (.aload_n 0, 1), some (.getfield 31, 3), none, none, some (.iload_n 3, 1), some (.aload 4, 2), none], [some (.getfield 125, 3), none, none, some (.invokevirtual 108, 3), none, none, some (.ifCond .ne 6, 3), none, none, some (.bipush (-4), 2), none, some (.ireturn, 1), some (.aload_n 0, 1), some (.getfield 56, 3), none, none], [some (.aload_n 0, 1), some (.getfield 31, 3), none, none, some (.invokevirtual 112, 3), none, none, some (.aload 4, 2), none, some (.iload_n 2, 1), some (.iload_n 3, 1), some (.invokevirtual 168, 3), none, none, some (.aload_n 0, 1), some (.getfield 31, 3)], [none, none, some (.getfield 144, 3), none, none, some (.bipush 6, 2), none, some (.bipush 10, 2), none, some (.iload_n 1, 1), some (.imul, 1), some (.iload_n 2, 1), some (.iadd, 1), some (.iload 5, 2), none, some (.invokevirtual 150, 3)], [none, none, some (.iload_n 2, 1), some (.ifCond .eq 8, 3), none, none, some (.iload_n 2, 1), some (.iconst 1, 1), some (.if_icmp .ne 7, 3), none, none, some (.iconst 1, 1), some (.goto 4, 3), none, none, some (.iconst 0, 1)], [some (.istore 6, 2), none, some (.iload 6, 2), none, some (.ifCond .eq 11, 3), none, none, some (.iload 5, 2), none, some (.bipush 9, 2), none, some (.iadd, 1), some (.goto 5, 3), none, none, some (.iload 5, 2)], [none, some (.ireturn, 1)]]
/-- X7_first -/
def jv_c114 : List (List jv_I) := [[some (.iload_n 1, 1), some (.iconst 0, 1), some (.aload_n 0, 1), some (.getfield 31, 3), none, none, some (.getfield 172, 3), none, none, some (.invokestatic 77, 3), none, none, some (.ifCond .ne 5, 3), none, none, some (.iconst (-1), 1)], [some (.ireturn, 1), some (.aload_n 0, 1), some (.getfield 31, 3), none, none, some (.getfield 175, 3), none, none, some (.istore_n 2, 1), some (.iload_n 1, 1), some (.iload_n 2, 1), some (.if_icmp .ne 6, 3), none, none, some (.bipush (-2), 2), none], [some (.ireturn, 1), some (.aload_n 0, 1), some (.getfield 31, 3), none, none, some (.iload_n 1, 1), some (.invokevirtual 178, 3), none, none, some (.ifCond .le 6, 3), none, none, some (.bipush (-4), 2), none, some (.ireturn, 1), some (.aload_n 0, 1)], [some (.getfield 56, 3), none, none, some (.aload_n 0, 1), some (.getfield 31, 3), none, none, some (.invokevirtual 112, 3), none, none, some (.aload_n 0, 1), some (.getfield 31, 3), none, none, some (.iload_n 1, 1), some (.putfield 175, 3)], [none, none, some (.aload_n 0, 1), some (.getfield 31, 3), none, none, some (.getfield 144, 3), none, none, some (.bipush 7, 2), none, some (.iconst 0, 1), some (.iload_n 2, 1), some (.invokevirtual 150, 3), none, none], [some (.iload_n 2, 1), some (.ireturn, 1)]]
/-- X7_swap -/
def jv_c115 : List (List jv_I) := [[some (.aload_n 0, 1), some (.iload_n 1, 1), some (.iload_n 2, 1), some (.invokevirtual 181, 3), none, none, some (.ifCond .eq 13, 3), none, none, some (.iload_n 3, 1), some (.iconst 0, 1), some (.bipush 9, 2), none, some (.invokestatic 77, 3), none, none], [some (.ifCond .ne 5, 3), none, none, some (.iconst (-1), 1), some (.ireturn, 1), some (.aload_n 0, 1), some (.getfield 31, 3), none, none, some (.iload_n 1, 1), some (.iload_n 2, 1), some (.iload_n 3, 1), some (.invokevirtual 184, 3), none, none, some (.istore 4, 2)], [none, some (.iload 4, 2), none, some (.ifCond .eq 9, 3), none, none, some (.iload 4, 2), none, some (.invokestatic 188, 3), none, none, some (.ireturn, 1), some (.aload_n 0, 1), some (.getfield 31, 3), none, none], [some (.iload_n 1, 1), some (.iload_n 2, 1), some (.invokevirtual 191, 3), none, none, some (.aload_n 0, 1), some (.getfield 31, 3), none, none, some (.iload_n 2, 1), some (.iload_n 1, 1), some (.invokevirtual 191, 3), none, none, some (.iadd, 1), some (.istore 5, 2)], [none, some (.aload_n 0, 1), some (.getfield 56, 3), none, none, some (.aload_n 0, 1), some (.getfield 31, 3), none, none, some (.invokevirtual 112, 3), none, none, some (.aload_n 0, 1), some (.getfield 31, 3), none, none], [some (.iload_n 1, 1), some (.iload_n 2, 1), some (.iload_n 3, 1), some (.invokevirtual 195, 3), none, none, some (.iload 5, 2), none, some (.bipush 100, 2), none, some (.iadd, 1), some (.ireturn, 1)]]
/-- X7_move -/
def jv_c116 : List (List jv_I) := [[some (.aload_n 0, 1), some (.getfield 31, 3), none, none, some (.iload_n 1, 1), some (.invokevirtual 154, 3), none, none, some (.ifCond .eq 14, 3), none, none, some (.aload_n 0, 1), some (.getfield 31, 3), none, none, some (.iload_n 2, 1)], [some (.invokevirtual 98, 3), none, none, some (.ifCond .ne 5, 3), none, none, some (.iconst (-1), 1), some (.ireturn, 1), some (.aload_n 0, 1), some (.getfield 31, 3), none, none, some (.iload_n 1, 1), some (.iload_n 2, 1), some (.invokevirtual 198, 3), none], [none, some (.istore_n 3, 1), some (.iload_n 3, 1), some (.ifCond .eq 8, 3), none, none, some (.iload_n 3, 1), some (.invokestatic 188, 3), none, none, some (.ireturn, 1), some (.aload_n 0, 1), some (.getfield 31, 3), none, none, some (.iload_n 1, 1)], [some (.iload_n 2, 1), some (.invokevirtual 201, 3), none, none, some (.aload_n 0, 1), some (.getfield 31, 3), none, none, some (.iload_n 1, 1), some (.invokevirtual 204, 3), none, none, some (.isub, 1), some (.istore 4, 2), none, some (.aload_n 0, 1)], [some (.getfield 56, 3), none, none, some (.aload_n 0, 1), some (.getfield 31, 3), none, none, some (.invokevirtual 112, 3), none, none, some (.aload_n 0, 1), some (.getfield 31, 3), none, none, some (.iload_n 1, 1), some (.iload_n 2, 1)], [some (.invokevirtual 207, 3), none, none, some (.iload 4, 2), none, some (.ireturn, 1)]]
/-- X7_ring -/
def jv_c117 : List (List jv_I) := [[some (.aload_n 0, 1), some (.iload_n 1, 1), some (.iload_n 2, 1), some (.invokevirtual 181, 3), none, none, some (.ifCond .eq 17, 3), none, none, some (.aload_n 0, 1), some (.iload_n 2, 1), some (.iload_n 3, 1), some (.invokevirtual 181, 3), none, none, some (.ifCond .eq 8, 3)], [none, none, some (.iload_n 1, 1), some (.iload_n 3, 1), some (.if_icmp .ne 5, 3), none, none, some (.iconst (-1), 1), some (.ireturn, 1), some (.aload_n 0, 1), some (.getfield 31, 3), none, none, some (.iload_n 1, 1), some (.iload_n 2, 1), some (.iload_n 3, 1)], [some (.invokevirtual 210, 3), none, none, some (.istore 4, 2), none, some (.iload 4, 2), none, some (.ifCond .eq 9, 3), none, none, some (.iload 4, 2), none, some (.invokestatic 188, 3), none, none, some (.ireturn, 1)], [some (.aload_n 0, 1), some (.getfield 31, 3), none, none, some (.iload_n 1, 1), some (.iload_n 2, 1), some (.iload_n 3, 1), some (.invokevirtual 213, 3), none, none, some (.istore 5, 2), none, some (.aload_n 0, 1), some (.getfield 56, 3), none, none], [some (.aload_n 0, 1), some (.getfield 31, 3), none, none, some (.invokevirtual 112, 3), none, none, some (.aload_n 0, 1), some (.getfield 31, 3), none, none, some (.iload_n 1, 1), some (.iload_n 2, 1), some (.iload_n 3, 1), some (.invokevirtual 216, 3), none], [none, some (.iload 5, 2), none, some (.ireturn, 1)]]
/-- X7_settle -/
def jv_c118 : List (List jv_I) := [[some (.aload_n 0, 1), some (.invokevirtual 219, 3), none, none, some (.istore_n 1, 1), some (.iload_n 1, 1), some (.ifCond .ne 6, 3), none, none, some (.bipush (-2), 2), none, some (.ireturn, 1), some (.aload_n 0, 1), some (.getfield 35, 3), none, none], [some (.invokevirtual 222, 3), none, none, some (.aload_n 0, 1), some (.getfield 31, 3), none, none, some (.invokevirtual 222, 3), none, none, some (.isub, 1), some (.istore_n 2, 1), some (.aload_n 0, 1), some (.getfield 56, 3), none, none], [some (.aload_n 0, 1), some (.getfield 31, 3), none, none, some (.invokevirtual 112, 3), none, none, some (.aload_n 0, 1), some (.getfield 31, 3), none, none, some (.aload_n 0, 1), some (.getfield 35, 3), none, none, some (.invokevirtual 88, 3)], [none, none, some (.aload_n 0, 1), some (.getfield 31, 3), none, none, some (.dup, 1), some (.getfield 225, 3), none, none, some (.iload_n 1, 1), some (.iadd, 1), some (.putfield 225, 3), none, none, some (.aload_n 0, 1)], [some (.getfield 31, 3), none, none, some (.getfield 144, 3), none, none, some (.iconst 5, 1), some (.iload_n 1, 1), some (.iload_n 2, 1), some (.invokevirtual 150, 3), none, none, some (.iload_n 1, 1), some (.ireturn, 1)]]
/-- X7_station -/
def jv_c119 : List (List jv_I) := [[some (.iload_n 1, 1), some (.iconst 1, 1), some (.bipush 50, 2), none, some (.invokestatic 77, 3), none, none, some (.ifCond .ne 5, 3), none, none, some (.iconst (-1), 1), some (.ireturn, 1), some (.aload_n 0, 1), some (.getfield 31, 3), none, none], [some (.getfield 228, 3), none, none, some (.iload_n 1, 1), some (.iadd, 1), some (.sipush 999, 3), none, none, some (.if_icmp .le 6, 3), none, none, some (.bipush (-3), 2), none, some (.ireturn, 1), some (.aload_n 0, 1), some (.getfield 56, 3)], [none, none, some (.aload_n 0, 1), some (.getfield 31, 3), none, none, some (.invokevirtual 112, 3), none, none, some (.aload_n 0, 1), some (.getfield 31, 3), none, none, some (.getfield 95, 3), none, none], [some (.istore_n 2, 1), some (.iconst 0, 1), some (.istore_n 3, 1), some (.iload_n 3, 1), some (.iload_n 1, 1), some (.if_icmp .ge 16, 3), none, none, some (.aload_n 0, 1), some (.getfield 31, 3), none, none, some (.invokevirtual 231, 3), none, none, some (.iinc 3 1, 3)], [none, none, some (.goto (-15), 3), none, none, some (.iload_n 2, 1), some (.aload_n 0, 1), some (.getfield 31, 3), none, none, some (.getfield 95, 3), none, none, some (.isub, 1), some (.ireturn, 1)]]
/-- X7_keep -/
def jv_c120 : List (List jv_I) := [[some (.iload_n 1, 1), some (.iconst 0, 1), some (.iconst 1, 1), some (.invokestatic 77, 3), none, none, some (.ifCond .ne 5, 3), none, none, some (.iconst (-1), 1), some (.ireturn, 1), some (.aload_n 0, 1), some (.getfield 45, 3), none, none, some (.iload_n 1, 1)], [some (.aaload, 1), some (.aload_n 0, 1), some (.getfield 31, 3), none, none, some (.invokevirtual 88, 3), none, none, some (.aload_n 0, 1), some (.getfield 49, 3), none, none, some (.iload_n 1, 1), some (.iconst 1, 1), some (.bastore, 1), some (.aload_n 0, 1)], [some (.getfield 31, 3), none, none, some (.getfield 95, 3), none, none, some (.ireturn, 1)]]
/-- X7_restore -/
def jv_c121 : List (List jv_I) := [[some (.iload_n 1, 1), some (.iconst 0, 1), some (.iconst 1, 1), some (.invokestatic 77, 3), none, none, some (.ifCond .ne 5, 3), none, none, some (.iconst (-1), 1), some (.ireturn, 1), some (.aload_n 0, 1), some (.getfield 49, 3), none, none, some (.iload_n 1, 1)], [some (.baload, 1), some (.ifCond .ne 6, 3), none, none, some (.bipush (-2), 2), none, some (.ireturn, 1), some (.aload_n 0, 1), some (.getfield 56, 3), none, none, some (.aload_n 0, 1), some (.getfield 31, 3), none, none, some (.invokevirtual 112, 3)], [none, none, some (.aload_n 0, 1), some (.getfield 31, 3), none, none, some (.aload_n 0, 1), some (.getfield 45, 3), none, none, some (.iload_n 1, 1), some (.aaload, 1), some (.invokevirtual 88, 3), none, none, some (.aload_n 0, 1)], [some (.getfield 31, 3), none, none, some (.getfield 95, 3), none, none, some (.ireturn, 1)]]
/-- X7_undo -/
def jv_c122 : List (List jv_I) := [[some (.aload_n 0, 1), some (.getfield 56, 3), none, none, some (.getfield 234, 3), none, none, some (.ifCond .ne 5, 3), none, none, some (.iconst (-1), 1), some (.ireturn, 1), some (.aload_n 0, 1), some (.getfield 56, 3), none, none], [some (.aload_n 0, 1), some (.getfield 31, 3), none, none, some (.invokevirtual 235, 3), none, none, some (.aload_n 0, 1), some (.getfield 56, 3), none, none, some (.getfield 234, 3), none, none, some (.ireturn, 1)]]
/-- X7_value -/
def jv_c123_0 : List (List jv_I) := [[some (.iload_n 1, 1), some (.tableswitch 234 0 16 #[83, 91, 99, 107, 115, 131, 143, 151, 159, 167, 175, 183, 191, 199, 207, 215, 226], 83), none, none, none, none, none, none, none, none, none, none, none, none, none, none], [none, none, none, none, none, none, none, none, none, none, none, none, none, none, none, none], [none, none, none, none, none, none, none, none, none, none, none, none, none, none, none, none], [none, none, none, none, none, none, none, none, none, none, none, none, none, none, none, none], [none, none, none, none, none, none, none, none, none, none, none, none, none, none, none, none], [none, none, none, none, some (.aload_n 0, 1), some (.getfield 31, 3), none, none, some (.getfield 172, 3), none, none, some (.ireturn, 1), some (.aload_n 0, 1), some (.getfield 31, 3), none, none], [some (.getfield 175, 3), none, none, some (.ireturn, 1), some (.aload_n 0, 1), some (.getfield 31, 3), none, none, some (.getfield 228, 3), none, none, some (.ireturn, 1), some (.aload_n 0, 1), some (.getfield 31, 3), none, none], [some (.getfield 95, 3), none, none, some (.ireturn, 1), some (.aload_n 0, 1), some (.getfield 31, 3), none, none, some (.invokevirtual 238, 3), none, none, some (.aload_n 0, 1), some (.getfield 31, 3), none, none, some (.getfield 95, 3)], [none, none, some (.isub, 1), some (.ireturn, 1), some (.aload_n 0, 1), some (.getfield 31, 3), none, none, some (.invokevirtual 222, 3), none, none, some (.sipush 10000, 3), none, none, some (.iadd, 1), some (.ireturn, 1)], [some (.aload_n 0, 1), some (.getfield 31, 3), none, none, some (.invokevirtual 241, 3), none, none, some (.ireturn, 1), some (.aload_n 0, 1), some (.getfield 31, 3), none, none, some (.invokevirtual 244, 3), none, none, some (.ireturn, 1)], [some (.aload_n 0, 1), some (.getfield 31, 3), none, none, some (.getfield 225, 3), none, none, some (.ireturn, 1), some (.aload_n 0, 1), some (.getfield 31, 3), none, none, some (.getfield 247, 3), none, none, some (.ireturn, 1)], [some (.aload_n 0, 1), some (.getfield 31, 3), none, none, some (.getfield 250, 3), none, none, some (.ireturn, 1), some (.aload_n 0, 1), some (.getfield 31, 3), none, none, some (.getfield 253, 3), none, none, some (.ireturn, 1)]]
def jv_c123_1 : List (List jv_I) := [[some (.aload_n 0, 1), some (.getfield 31, 3), none, none, some (.getfield 256, 3), none, none, some (.ireturn, 1), some (.aload_n 0, 1), some (.getfield 31, 3), none, none, some (.invokevirtual 259, 3), none, none, some (.ireturn, 1)], [some (.aload_n 0, 1), some (.getfield 31, 3), none, none, some (.invokevirtual 262, 3), none, none, some (.ireturn, 1), some (.aload_n 0, 1), some (.getfield 31, 3), none, none, some (.getfield 144, 3), none, none, some (.getfield 265, 3)], [none, none, some (.ireturn, 1), some (.aload_n 0, 1), some (.getfield 56, 3), none, none, some (.getfield 234, 3), none, none, some (.ireturn, 1), some (.iconst (-1), 1), some (.ireturn, 1)]]
def jv_c123 : List (List jv_I) := jv_c123_0 ++ jv_c123_1
/-- X7_of -/
def jv_c124 : List (List jv_I) := [[some (.aload_n 0, 1), some (.getfield 31, 3), none, none, some (.iload_n 1, 1), some (.invokevirtual 154, 3), none, none, some (.ifCond .ne 5, 3), none, none, some (.iconst (-1), 1), some (.ireturn, 1), some (.aload_n 0, 1), some (.getfield 31, 3), none], [none, some (.iload_n 1, 1), some (.invokevirtual 160, 3), none, none, some (.astore_n 3, 1), some (.iload_n 2, 1), some (.tableswitch 149 0 11 #[61, 66, 71, 76, 84, 92, 97, 102, 107, 112, 124, 140], 61), none, none, none, none, none, none, none, none], [none, none, none, none, none, none, none, none, none, none, none, none, none, none, none, none], [none, none, none, none, none, none, none, none, none, none, none, none, none, none, none, none], [none, none, none, none, none, none, none, none, none, none, none, none, none, none, none, none], [none, none, none, none, some (.aload_n 3, 1), some (.getfield 125, 3), none, none, some (.ireturn, 1), some (.aload_n 3, 1), some (.getfield 128, 3), none, none, some (.ireturn, 1), some (.aload_n 3, 1), some (.getfield 131, 3)], [none, none, some (.ireturn, 1), some (.aload_n 3, 1), some (.getfield 268, 3), none, none, some (.bipush 9, 2), none, some (.iadd, 1), some (.ireturn, 1), some (.aload_n 3, 1), some (.getfield 271, 3), none, none, some (.bipush 9, 2)], [none, some (.iadd, 1), some (.ireturn, 1), some (.aload_n 3, 1), some (.getfield 274, 3), none, none, some (.ireturn, 1), some (.aload_n 3, 1), some (.getfield 277, 3), none, none, some (.ireturn, 1), some (.aload_n 3, 1), some (.getfield 134, 3), none], [none, some (.ireturn, 1), some (.aload_n 3, 1), some (.getfield 137, 3), none, none, some (.ireturn, 1), some (.aload_n 0, 1), some (.getfield 31, 3), none, none, some (.iload_n 1, 1), some (.invokevirtual 204, 3), none, none, some (.bipush 100, 2)], [none, some (.iadd, 1), some (.ireturn, 1), some (.aload_n 0, 1), some (.getfield 31, 3), none, none, some (.aload_n 3, 1), some (.aload_n 3, 1), some (.getfield 125, 3), none, none, some (.bipush 8, 2), none, some (.idiv, 1), some (.invokevirtual 280, 3)], [none, none, some (.ireturn, 1), some (.aload_n 0, 1), some (.getfield 31, 3), none, none, some (.iload_n 1, 1), some (.invokevirtual 284, 3), none, none, some (.ireturn, 1), some (.iconst (-1), 1), some (.ireturn, 1)]]
/-- X7_letter -/
def jv_c125 : List (List jv_I) := [[some (.aload_n 0, 1), some (.getfield 31, 3), none, none, some (.iload_n 1, 1), some (.invokevirtual 154, 3), none, none, some (.ifCond .eq 7, 3), none, none, some (.iload_n 2, 1), some (.ifCond .ge 5, 3), none, none, some (.iconst (-1), 1)], [some (.ireturn, 1), some (.aload_n 0, 1), some (.getfield 31, 3), none, none, some (.iload_n 1, 1), some (.invokevirtual 160, 3), none, none, some (.iload_n 2, 1), some (.invokevirtual 287, 3), none, none, some (.istore_n 3, 1), some (.iload_n 3, 1), some (.ifCond .ne 8, 3)], [none, none, some (.bipush (-2), 2), none, some (.goto 4, 3), none, none, some (.iload_n 3, 1), some (.ireturn, 1)]]
/-- X7_at -/
def jv_c126 : List (List jv_I) := [[some (.aload_n 0, 1), some (.getfield 31, 3), none, none, some (.iload_n 1, 1), some (.invokevirtual 98, 3), none, none, some (.ifCond .eq 14, 3), none, none, some (.aload_n 0, 1), some (.getfield 31, 3), none, none, some (.iload_n 1, 1)], [some (.invokevirtual 290, 3), none, none, some (.goto 4, 3), none, none, some (.iconst (-1), 1), some (.ireturn, 1)]]
/-- X7_table -/
def jv_c127 : List (List jv_I) := [[some (.iload_n 1, 1), some (.iconst 0, 1), some (.aload_n 0, 1), some (.getfield 31, 3), none, none, some (.invokevirtual 259, 3), none, none, some (.iconst 1, 1), some (.isub, 1), some (.invokestatic 77, 3), none, none, some (.ifCond .ne 5, 3), none], [none, some (.iconst (-1), 1), some (.ireturn, 1), some (.iload_n 2, 1), some (.tableswitch 72 0 3 #[32, 41, 50, 63], 32), none, none, none, none, none, none, none, none, none, none, none], [none, none, none, none, none, none, none, none, none, none, none, none, none, none, none, none], [none, none, none, none, some (.aload_n 0, 1), some (.getfield 31, 3), none, none, some (.iload_n 1, 1), some (.invokevirtual 293, 3), none, none, some (.ireturn, 1), some (.aload_n 0, 1), some (.getfield 31, 3), none], [none, some (.iload_n 1, 1), some (.invokevirtual 296, 3), none, none, some (.ireturn, 1), some (.aload_n 0, 1), some (.getfield 31, 3), none, none, some (.iload_n 1, 1), some (.invokevirtual 299, 3), none, none, some (.sipush 1000, 3), none], [none, some (.iadd, 1), some (.ireturn, 1), some (.aload_n 0, 1), some (.getfield 31, 3), none, none, some (.iload_n 1, 1), some (.invokevirtual 302, 3), none, none, some (.ireturn, 1), some (.iconst (-1), 1), some (.ireturn, 1)]]
/-- X7_family -/
def jv_c128 : List (List jv_I) := [[some (.iload_n 1, 1), some (.iconst 1, 1), some (.bipush 9, 2), none, some (.invokestatic 77, 3), none, none, some (.ifCond .ne 5, 3), none, none, some (.iconst (-1), 1), some (.ireturn, 1), some (.iload_n 2, 1), some (.tableswitch 58 0 2 #[27, 36, 45], 27), none, none], [none, none, none, none, none, none, none, none, none, none, none, none, none, none, none, none], [none, none, none, none, none, none, none, none, some (.aload_n 0, 1), some (.getfield 31, 3), none, none, some (.iload_n 1, 1), some (.invokevirtual 305, 3), none, none], [some (.ireturn, 1), some (.aload_n 0, 1), some (.getfield 31, 3), none, none, some (.iload_n 1, 1), some (.invokevirtual 308, 3), none, none, some (.ireturn, 1), some (.aload_n 0, 1), some (.getfield 31, 3), none, none, some (.iload_n 1, 1), some (.invokevirtual 311, 3)], [none, none, some (.sipush 1000, 3), none, none, some (.iadd, 1), some (.ireturn, 1), some (.iconst (-1), 1), some (.ireturn, 1)]]
/-- X7_ranked -/
def jv_c129 : List (List jv_I) := [[some (.iload_n 1, 1), some (.ifCond .ge 7, 3), none, none, some (.iconst (-1), 1), some (.goto 11, 3), none, none, some (.aload_n 0, 1), some (.getfield 31, 3), none, none, some (.iload_n 1, 1), some (.invokevirtual 314, 3), none, none], [some (.ireturn, 1)]]
/-- X7_why -/
def jv_c130 : List (List jv_I) := [[some (.aload_n 0, 1), some (.iload_n 1, 1), some (.iload_n 2, 1), some (.invokevirtual 181, 3), none, none, some (.ifCond .eq 13, 3), none, none, some (.iload_n 3, 1), some (.iconst 0, 1), some (.bipush 9, 2), none, some (.invokestatic 77, 3), none, none], [some (.ifCond .ne 5, 3), none, none, some (.iconst (-1), 1), some (.ireturn, 1), some (.aload_n 0, 1), some (.getfield 31, 3), none, none, some (.iload_n 1, 1), some (.iload_n 2, 1), some (.iload_n 3, 1), some (.invokevirtual 184, 3), none, none, some (.ireturn, 1)]]
/-- X7_whyMove -/
def jv_c131 : List (List jv_I) := [[some (.aload_n 0, 1), some (.getfield 31, 3), none, none, some (.iload_n 1, 1), some (.invokevirtual 154, 3), none, none, some (.ifCond .eq 14, 3), none, none, some (.aload_n 0, 1), some (.getfield 31, 3), none, none, some (.iload_n 2, 1)], [some (.invokevirtual 98, 3), none, none, some (.ifCond .ne 5, 3), none, none, some (.iconst (-1), 1), some (.ireturn, 1), some (.aload_n 0, 1), some (.getfield 31, 3), none, none, some (.iload_n 1, 1), some (.iload_n 2, 1), some (.invokevirtual 198, 3), none], [none, some (.ireturn, 1)]]
/-- X7_joyAt -/
def jv_c132 : List (List jv_I) := [[some (.aload_n 0, 1), some (.getfield 31, 3), none, none, some (.iload_n 1, 1), some (.invokevirtual 154, 3), none, none, some (.ifCond .eq 14, 3), none, none, some (.aload_n 0, 1), some (.getfield 31, 3), none, none, some (.iload_n 2, 1)], [some (.invokevirtual 98, 3), none, none, some (.ifCond .ne 5, 3), none, none, some (.iconst (-1), 1), some (.ireturn, 1), some (.aload_n 0, 1), some (.getfield 31, 3), none, none, some (.iload_n 1, 1), some (.iload_n 2, 1), some (.invokevirtual 201, 3), none], [none, some (.bipush 100, 2), none, some (.iadd, 1), some (.ireturn, 1)]]
/-- X7_ifSwapped -/
def jv_c133 : List (List jv_I) := [[some (.aload_n 0, 1), some (.iload_n 1, 1), some (.iload_n 2, 1), some (.invokevirtual 181, 3), none, none, some (.ifCond .ne 5, 3), none, none, some (.iconst (-1), 1), some (.ireturn, 1), some (.iload_n 3, 1), some (.tableswitch 68 0 2 #[28, 41, 54], 28), none, none, none], [none, none, none, none, none, none, none, none, none, none, none, none, none, none, none, none], [none, none, none, none, none, none, none, none, some (.aload_n 0, 1), some (.getfield 31, 3), none, none, some (.iload_n 1, 1), some (.iload_n 2, 1), some (.invokevirtual 191, 3), none], [none, some (.bipush 100, 2), none, some (.iadd, 1), some (.ireturn, 1), some (.aload_n 0, 1), some (.getfield 31, 3), none, none, some (.iload_n 2, 1), some (.iload_n 1, 1), some (.invokevirtual 191, 3), none, none, some (.bipush 100, 2), none], [some (.iadd, 1), some (.ireturn, 1), some (.aload_n 0, 1), some (.getfield 31, 3), none, none, some (.iload_n 1, 1), some (.iload_n 2, 1), some (.invokevirtual 317, 3), none, none, some (.sipush 1000, 3), none, none, some (.iadd, 1), some (.ireturn, 1)], [some (.iconst (-1), 1), some (.ireturn, 1)]]
/-- X7_leastPrice -/
def jv_c134 : List (List jv_I) := [[some (.aload_n 0, 1), some (.iload_n 1, 1), some (.iload_n 2, 1), some (.invokevirtual 181, 3), none, none, some (.ifCond .ne 5, 3), none, none, some (.iconst (-1), 1), some (.ireturn, 1), some (.iconst 0, 1), some (.istore_n 3, 1), some (.iload_n 3, 1), some (.bipush 9, 2), none], [some (.if_icmp .gt 24, 3), none, none, some (.aload_n 0, 1), some (.getfield 31, 3), none, none, some (.iload_n 1, 1), some (.iload_n 2, 1), some (.iload_n 3, 1), some (.invokevirtual 184, 3), none, none, some (.ifCond .ne 5, 3), none, none], [some (.iload_n 3, 1), some (.ireturn, 1), some (.iinc 3 1, 3), none, none, some (.goto (-24), 3), none, none, some (.bipush (-2), 2), none, some (.ireturn, 1)]]
/-- X7_bestSeat -/
def jv_c135 : List (List jv_I) := [[some (.aload_n 0, 1), some (.getfield 31, 3), none, none, some (.iload_n 1, 1), some (.invokevirtual 154, 3), none, none, some (.ifCond .eq 14, 3), none, none, some (.aload_n 0, 1), some (.getfield 31, 3), none, none, some (.iload_n 1, 1)], [some (.invokevirtual 320, 3), none, none, some (.goto 4, 3), none, none, some (.iconst (-1), 1), some (.ireturn, 1)]]
/-- X7_partner -/
def jv_c136 : List (List jv_I) := [[some (.aload_n 0, 1), some (.getfield 31, 3), none, none, some (.iload_n 1, 1), some (.invokevirtual 154, 3), none, none, some (.ifCond .eq 14, 3), none, none, some (.aload_n 0, 1), some (.getfield 31, 3), none, none, some (.iload_n 1, 1)], [some (.invokevirtual 323, 3), none, none, some (.goto 4, 3), none, none, some (.iconst (-1), 1), some (.ireturn, 1)]]
/-- X7_rings -/
def jv_c137 : List (List jv_I) := [[some (.aload_n 0, 1), some (.getfield 31, 3), none, none, some (.invokevirtual 326, 3), none, none, some (.ireturn, 1)]]
/-- X7_ifSettled -/
def jv_c138 : List (List jv_I) := [[some (.iload_n 1, 1), some (.iconst 0, 1), some (.iconst 2, 1), some (.invokestatic 77, 3), none, none, some (.ifCond .ne 5, 3), none, none, some (.iconst (-1), 1), some (.ireturn, 1), some (.aload_n 0, 1), some (.invokevirtual 219, 3), none, none, some (.istore_n 2, 1)], [some (.iload_n 1, 1), some (.lookupswitch 41 #[(0, 27), (1, 29)], 27), none, none, none, none, none, none, none, none, none, none, none, none, none, none], [none, none, none, none, none, none, none, none, none, none, none, none, some (.iload_n 2, 1), some (.ireturn, 1), some (.aload_n 0, 1), some (.getfield 35, 3)], [none, none, some (.invokevirtual 222, 3), none, none, some (.sipush 10000, 3), none, none, some (.iadd, 1), some (.ireturn, 1), some (.aload_n 0, 1), some (.getfield 35, 3), none, none, some (.invokevirtual 241, 3), none], [none, some (.ireturn, 1)]]
/-- X7_ifFirst -/
def jv_c139 : List (List jv_I) := [[some (.iload_n 1, 1), some (.iconst 0, 1), some (.aload_n 0, 1), some (.getfield 31, 3), none, none, some (.getfield 172, 3), none, none, some (.invokestatic 77, 3), none, none, some (.ifCond .eq 14, 3), none, none, some (.aload_n 0, 1)], [some (.getfield 31, 3), none, none, some (.iload_n 1, 1), some (.invokevirtual 178, 3), none, none, some (.goto 4, 3), none, none, some (.iconst (-1), 1), some (.ireturn, 1)]]
/-- X7_log -/
def jv_c140 : List (List jv_I) := [[some (.iload_n 1, 1), some (.ifCond .lt 12, 3), none, none, some (.iload_n 2, 1), some (.iconst 0, 1), some (.iconst 2, 1), some (.invokestatic 77, 3), none, none, some (.ifCond .ne 5, 3), none, none, some (.iconst (-1), 1), some (.ireturn, 1), some (.aload_n 0, 1)], [some (.getfield 31, 3), none, none, some (.getfield 144, 3), none, none, some (.iload_n 1, 1), some (.iload_n 2, 1), some (.invokevirtual 329, 3), none, none, some (.ireturn, 1)]]
/-- X7_full -/
def jv_c141 : List (List jv_I) := [[some (.aload_n 0, 1), some (.getfield 31, 3), none, none, some (.invokevirtual 238, 3), none, none, some (.istore_n 1, 1), some (.iload_n 1, 1), some (.ifCond .le 17, 3), none, none, some (.aload_n 0, 1), some (.getfield 31, 3), none, none], [some (.getfield 95, 3), none, none, some (.i2f, 1), some (.iload_n 1, 1), some (.i2f, 1), some (.fdiv, 1), some (.goto 4, 3), none, none, some (.fconst 0, 1), some (.freturn, 1)]]
/-- X7_meanJoy -/
def jv_c142 : List (List jv_I) := [[some (.aload_n 0, 1), some (.getfield 31, 3), none, none, some (.getfield 95, 3), none, none, some (.ifCond .le 23, 3), none, none, some (.aload_n 0, 1), some (.getfield 31, 3), none, none, some (.invokevirtual 222, 3), none], [none, some (.i2d, 1), some (.aload_n 0, 1), some (.getfield 31, 3), none, none, some (.getfield 95, 3), none, none, some (.i2d, 1), some (.ddiv, 1), some (.goto 4, 3), none, none, some (.dconst 0, 1), some (.dreturn, 1)]]
/-- X7_planLength -/
def jv_c143 : List (List jv_I) := [[some (.aload_n 0, 1), some (.getfield 31, 3), none, none, some (.getfield 172, 3), none, none, some (.bipush 7, 2), none, some (.imul, 1), some (.ireturn, 1)]]
/-- X7_planByte -/
def jv_c144 : List (List jv_I) := [[some (.iload_n 1, 1), some (.ifCond .ge 5, 3), none, none, some (.iconst (-1), 1), some (.ireturn, 1), some (.iload_n 1, 1), some (.aload_n 0, 1), some (.invokevirtual 332, 3), none, none, some (.if_icmp .ge 21, 3), none, none, some (.aload_n 0, 1), some (.getfield 31, 3)], [none, none, some (.iload_n 1, 1), some (.bipush 7, 2), none, some (.idiv, 1), some (.iload_n 1, 1), some (.bipush 7, 2), none, some (.irem, 1), some (.invokevirtual 335, 3), none, none, some (.goto 5, 3), none, none], [some (.bipush (-2), 2), none, some (.ireturn, 1)]]
/-- X7_setupLength -/
def jv_c145 : List (List jv_I) := [[some (.aload_n 0, 1), some (.getfield 24, 3), none, none, some (.aload_n 0, 1), some (.getfield 31, 3), none, none, some (.bipush (-2), 2), none, some (.invokevirtual 338, 3), none, none, some (.aload_n 0, 1), some (.getfield 24, 3), none], [none, some (.getfield 342, 3), none, none, some (.ireturn, 1)]]
/-- X7_setupByte -/
def jv_c146 : List (List jv_I) := [[some (.iload_n 1, 1), some (.ifCond .ge 5, 3), none, none, some (.iconst (-1), 1), some (.ireturn, 1), some (.aload_n 0, 1), some (.getfield 24, 3), none, none, some (.aload_n 0, 1), some (.getfield 31, 3), none, none, some (.iload_n 1, 1), some (.invokevirtual 338, 3)], [none, none, some (.aload_n 0, 1), some (.getfield 24, 3), none, none, some (.getfield 343, 3), none, none, some (.ireturn, 1)]]
/-- X7_isIn -/
def jv_c147 : List (List jv_I) := [[some (.iload_n 0, 1), some (.iload_n 1, 1), some (.if_icmp .lt 12, 3), none, none, some (.iload_n 0, 1), some (.iload_n 2, 1), some (.if_icmp .gt 7, 3), none, none, some (.iconst 1, 1), some (.goto 4, 3), none, none, some (.iconst 0, 1), some (.ireturn, 1)]]
/-- X7_refusal -/
def jv_c148 : List (List jv_I) := [[some (.bipush (-10), 2), none, some (.iload_n 0, 1), some (.isub, 1), some (.ireturn, 1)]]
/-- X7_arePair -/
def jv_c149 : List (List jv_I) := [[some (.aload_n 0, 1), some (.getfield 31, 3), none, none, some (.iload_n 1, 1), some (.invokevirtual 154, 3), none, none, some (.ifCond .eq 23, 3), none, none, some (.aload_n 0, 1), some (.getfield 31, 3), none, none, some (.iload_n 2, 1)], [some (.invokevirtual 154, 3), none, none, some (.ifCond .eq 12, 3), none, none, some (.iload_n 1, 1), some (.iload_n 2, 1), some (.if_icmp .eq 7, 3), none, none, some (.iconst 1, 1), some (.goto 4, 3), none, none, some (.iconst 0, 1)], [some (.ireturn, 1)]]
/-- X7_settleDraft -/
def jv_c150 : List (List jv_I) := [[some (.aload_n 0, 1), some (.getfield 35, 3), none, none, some (.aload_n 0, 1), some (.getfield 31, 3), none, none, some (.invokevirtual 88, 3), none, none, some (.iconst 0, 1), some (.istore_n 1, 1), some (.iload_n 1, 1), some (.bipush 99, 2), none], [some (.if_icmp .ge 21, 3), none, none, some (.aload_n 0, 1), some (.getfield 35, 3), none, none, some (.invokevirtual 346, 3), none, none, some (.ifCond .ne 5, 3), none, none, some (.iload_n 1, 1), some (.ireturn, 1), some (.iinc 1 1, 3)], [none, none, some (.goto (-21), 3), none, none, some (.bipush 99, 2), none, some (.ireturn, 1)]]
/-- X8_init -/
def jv_c151 : List (List jv_I) := [[some (.aload_n 0, 1), some (.invokespecial 1, 3), none, none, some (.aload_n 0, 1), some (.sipush 330, 3), none, none, some (.newarray .int, 2), none, some (.putfield 7, 3), none, none, some (.aload_n 0, 1), some (.sipush 330, 3), none], [none, some (.newarray .int, 2), none, some (.putfield 13, 3), none, none, some (.aload_n 0, 1), some (.sipush 330, 3), none, none, some (.newarray .int, 2), none, some (.putfield 16, 3), none, none, some (.aload_n 0, 1)], [some (.sipush 2640, 3), none, none, some (.newarray .int, 2), none, some (.putfield 19, 3), none, none, some (.aload_n 0, 1), some (.sipush 660, 3), none, none, some (.newarray .int, 2), none, some (.putfield 22, 3), none], [none, some (.aload_n 0, 1), some (.iconst 2, 1), some (.newarray .boolean, 2), none, some (.putfield 25, 3), none, none, some (.aload_n 0, 1), some (.sipush 1000, 3), none, none, some (.newarray .int, 2), none, some (.putfield 29, 3), none], [none, some (.aload_n 0, 1), some (.bipush (-2), 2), none, some (.putfield 32, 3), none, none, some (.aload_n 0, 1), some (.sipush 1700, 3), none, none, some (.newarray .int, 2), none, some (.putfield 36, 3), none, none], [some (.aload_n 0, 1), some (.getfield 7, 3), none, none, some (.iconst 0, 1), some (.iconst 4, 1), some (.iastore, 1), some (.aload_n 0, 1), some (.getfield 7, 3), none, none, some (.iconst 1, 1), some (.iconst 1, 1), some (.iastore, 1), some (.return_, 1)]]
/-- X8_in -/
def jv_c152 : List (List jv_I) := [[some (.iload_n 1, 1), some (.iload_n 0, 1), some (.if_icmp .gt 12, 3), none, none, some (.iload_n 0, 1), some (.iload_n 2, 1), some (.if_icmp .gt 7, 3), none, none, some (.iconst 1, 1), some (.goto 4, 3), none, none, some (.iconst 0, 1), some (.ireturn, 1)]]
/-- X8_layRow -/
def jv_c153 : List (List jv_I) := [[some (.iconst 0, 1), some (.istore 4, 2), none, some (.iload 4, 2), none, some (.sipush 330, 3), none, none, some (.if_icmp .ge 21, 3), none, none, some (.aload_n 2, 1), some (.iload_n 3, 1), some (.iload 4, 2), none, some (.iadd, 1)], [some (.aload_n 0, 1), some (.iload_n 1, 1), some (.iload 4, 2), none, some (.iadd, 1), some (.iaload, 1), some (.iastore, 1), some (.iinc 4 1, 3), none, none, some (.goto (-23), 3), none, none, some (.return_, 1)]]
/-- X8_takesSpare -/
def jv_c154 : List (List jv_I) := [[some (.aload_n 0, 1), some (.getfield 7, 3), none, none, some (.iconst 0, 1), some (.aload_n 0, 1), some (.getfield 16, 3), none, none, some (.iconst 0, 1), some (.invokestatic 42, 3), none, none, some (.return_, 1)]]
/-- X8_numberAt -/
def jv_c155 : List (List jv_I) := [[some (.bipush 9, 2), none, some (.bipush 10, 2), none, some (.iload_n 0, 1), some (.imul, 1), some (.iadd, 1), some (.iload_n 1, 1), some (.iadd, 1), some (.ireturn, 1)]]
/-- X8_isTraveller -/
def jv_c156 : List (List jv_I) := [[some (.iload_n 1, 1), some (.iconst 0, 1), some (.aload_n 0, 1), some (.getfield 7, 3), none, none, some (.iconst 3, 1), some (.iaload, 1), some (.iconst 1, 1), some (.isub, 1), some (.invokestatic 46, 3), none, none, some (.ireturn, 1)]]
/-- X8_isSeat -/
def jv_c157 : List (List jv_I) := [[some (.iload_n 1, 1), some (.iconst 0, 1), some (.iconst 4, 1), some (.aload_n 0, 1), some (.getfield 7, 3), none, none, some (.iconst 0, 1), some (.iaload, 1), some (.imul, 1), some (.iconst 1, 1), some (.isub, 1), some (.invokestatic 46, 3), none, none, some (.ireturn, 1)]]
/-- X8_isPair -/
def jv_c158 : List (List jv_I) := [[some (.aload_n 0, 1), some (.iload_n 1, 1), some (.invokevirtual 50, 3), none, none, some (.ifCond .eq 20, 3), none, none, some (.aload_n 0, 1), some (.iload_n 2, 1), some (.invokevirtual 50, 3), none, none, some (.ifCond .eq 12, 3), none, none], [some (.iload_n 1, 1), some (.iload_n 2, 1), some (.if_icmp .eq 7, 3), none, none, some (.iconst 1, 1), some (.goto 4, 3), none, none, some (.iconst 0, 1), some (.ireturn, 1)]]
/-- X8_isPaid -/
def jv_c159 : List (List jv_I) := [[some (.iload_n 0, 1), some (.iconst 0, 1), some (.bipush 9, 2), none, some (.invokestatic 46, 3), none, none, some (.ireturn, 1)]]
/-- X8_rowOf -/
def jv_c160 : List (List jv_I) := [[some (.iload_n 0, 1), some (.iconst 4, 1), some (.idiv, 1), some (.ireturn, 1)]]
/-- X8_tableOf -/
def jv_c161 : List (List jv_I) := [[some (.iload_n 0, 1), some (.bipush 8, 2), none, some (.idiv, 1), some (.ireturn, 1)]]
/-- X8_isWindow -/
def jv_c162 : List (List jv_I) := [[some (.iload_n 0, 1), some (.iconst 4, 1), some (.irem, 1), some (.ifCond .eq 10, 3), none, none, some (.iload_n 0, 1), some (.iconst 4, 1), some (.irem, 1), some (.iconst 3, 1), some (.if_icmp .ne 7, 3), none, none, some (.iconst 1, 1), some (.goto 4, 3), none], [none, some (.iconst 0, 1), some (.ireturn, 1)]]
/-- X8_isForward -/
def jv_c163 : List (List jv_I) := [[some (.iload_n 0, 1), some (.iconst 2, 1), some (.irem, 1), some (.iconst 1, 1), some (.if_icmp .ne 7, 3), none, none, some (.iconst 1, 1), some (.goto 4, 3), none, none, some (.iconst 0, 1), some (.ireturn, 1)]]
/-- X8_tablesOf -/
def jv_c164 : List (List jv_I) := [[some (.aload_n 0, 1), some (.iconst 0, 1), some (.iaload, 1), some (.iconst 1, 1), some (.iadd, 1), some (.iconst 2, 1), some (.idiv, 1), some (.ireturn, 1)]]
/-- X8_whoHas -/
def jv_c165 : List (List jv_I) := [[some (.iconst 0, 1), some (.istore_n 2, 1), some (.iload_n 2, 1), some (.aload_n 0, 1), some (.iconst 3, 1), some (.iaload, 1), some (.if_icmp .ge 22, 3), none, none, some (.aload_n 0, 1), some (.iload_n 2, 1), some (.iconst 0, 1), some (.invokestatic 54, 3), none, none, some (.iaload, 1)], [some (.iload_n 1, 1), some (.if_icmp .ne 5, 3), none, none, some (.iload_n 2, 1), some (.ireturn, 1), some (.iinc 2 1, 3), none, none, some (.goto (-23), 3), none, none, some (.bipush (-2), 2), none, some (.ireturn, 1)]]
/-- X8_mayUse -/
def jv_c166 : List (List jv_I) := [[some (.iload_n 0, 1), some (.iconst 1, 1), some (.if_icmp .eq 11, 3), none, none, some (.iload_n 1, 1), some (.invokestatic 58, 3), none, none, some (.iload_n 2, 1), some (.if_icmp .lt 7, 3), none, none, some (.iconst 1, 1), some (.goto 4, 3), none], [none, some (.iconst 0, 1), some (.ireturn, 1)]]
/-- X8_maySit -/
def jv_c167 : List (List jv_I) := [[some (.aload_n 0, 1), some (.iload_n 1, 1), some (.iconst 1, 1), some (.invokestatic 54, 3), none, none, some (.iaload, 1), some (.iload_n 2, 1), some (.aload_n 0, 1), some (.iconst 1, 1), some (.iaload, 1), some (.invokestatic 62, 3), none, none, some (.ireturn, 1)]]
/-- X8_kinAt -/
def jv_c168 : List (List jv_I) := [[some (.iconst 0, 1), some (.istore_n 3, 1), some (.aload_n 0, 1), some (.iload_n 1, 1), some (.iconst 2, 1), some (.invokestatic 54, 3), none, none, some (.iaload, 1), some (.istore 4, 2), none, some (.iconst 0, 1), some (.istore 5, 2), none, some (.iload 5, 2), none], [some (.aload_n 0, 1), some (.iconst 3, 1), some (.iaload, 1), some (.if_icmp .ge 51, 3), none, none, some (.iload 5, 2), none, some (.iload_n 1, 1), some (.if_icmp .eq 39, 3), none, none, some (.iload 4, 2), none, some (.ifCond .le 34, 3), none], [none, some (.aload_n 0, 1), some (.iload 5, 2), none, some (.iconst 2, 1), some (.invokestatic 54, 3), none, none, some (.iaload, 1), some (.iload 4, 2), none, some (.if_icmp .ne 21, 3), none, none, some (.aload_n 0, 1), some (.iload 5, 2)], [none, some (.iconst 0, 1), some (.invokestatic 54, 3), none, none, some (.iaload, 1), some (.invokestatic 65, 3), none, none, some (.iload_n 2, 1), some (.if_icmp .ne 6, 3), none, none, some (.iinc 3 1, 3), none, none], [some (.iinc 5 1, 3), none, none, some (.goto (-53), 3), none, none, some (.iload_n 3, 1), some (.ireturn, 1)]]
/-- X8_joyIn -/
def jv_c169 : List (List jv_I) := [[some (.iconst 4, 1), some (.aload_n 0, 1), some (.iload_n 1, 1), some (.iload_n 2, 1), some (.invokestatic 65, 3), none, none, some (.invokestatic 68, 3), none, none, some (.imul, 1), some (.istore_n 3, 1), some (.iload_n 2, 1), some (.invokestatic 58, 3), none, none], [some (.aload_n 0, 1), some (.iload_n 1, 1), some (.iconst 5, 1), some (.invokestatic 54, 3), none, none, some (.iaload, 1), some (.isub, 1), some (.istore 4, 2), none, some (.iload_n 2, 1), some (.invokestatic 72, 3), none, none, some (.ifCond .eq 13, 3), none], [none, some (.iload_n 3, 1), some (.aload_n 0, 1), some (.iload_n 1, 1), some (.iconst 3, 1), some (.invokestatic 54, 3), none, none, some (.iaload, 1), some (.iadd, 1), some (.istore_n 3, 1), some (.iload_n 2, 1), some (.invokestatic 58, 3), none, none, some (.invokestatic 75, 3)], [none, none, some (.ifCond .eq 13, 3), none, none, some (.iload_n 3, 1), some (.aload_n 0, 1), some (.iload_n 1, 1), some (.iconst 4, 1), some (.invokestatic 54, 3), none, none, some (.iaload, 1), some (.iadd, 1), some (.istore_n 3, 1), some (.iload_n 3, 1)], [some (.aload_n 0, 1), some (.iload_n 1, 1), some (.bipush 6, 2), none, some (.invokestatic 54, 3), none, none, some (.iaload, 1), some (.iload 4, 2), none, some (.ifCond .ge 9, 3), none, none, some (.iload 4, 2), none, some (.ineg, 1)], [some (.goto 5, 3), none, none, some (.iload 4, 2), none, some (.imul, 1), some (.isub, 1), some (.ireturn, 1)]]
/-- X8_joyOf -/
def jv_c170 : List (List jv_I) := [[some (.aload_n 0, 1), some (.iload_n 1, 1), some (.aload_n 0, 1), some (.iload_n 1, 1), some (.iconst 0, 1), some (.invokestatic 54, 3), none, none, some (.iaload, 1), some (.invokestatic 78, 3), none, none, some (.ireturn, 1)]]
/-- X8_joyAll -/
def jv_c171 : List (List jv_I) := [[some (.iconst 0, 1), some (.istore_n 1, 1), some (.iconst 0, 1), some (.istore_n 2, 1), some (.iload_n 2, 1), some (.aload_n 0, 1), some (.iconst 3, 1), some (.iaload, 1), some (.if_icmp .ge 17, 3), none, none, some (.iload_n 1, 1), some (.aload_n 0, 1), some (.iload_n 2, 1), some (.invokestatic 81, 3), none], [none, some (.iadd, 1), some (.istore_n 1, 1), some (.iinc 2 1, 3), none, none, some (.goto (-18), 3), none, none, some (.iload_n 1, 1), some (.ireturn, 1)]]
/-- X8_grumblers -/
def jv_c172 : List (List jv_I) := [[some (.iconst 0, 1), some (.istore_n 1, 1), some (.iconst 0, 1), some (.istore_n 2, 1), some (.iload_n 2, 1), some (.aload_n 0, 1), some (.iconst 3, 1), some (.iaload, 1), some (.if_icmp .ge 20, 3), none, none, some (.aload_n 0, 1), some (.iload_n 2, 1), some (.invokestatic 81, 3), none, none], [some (.ifCond .ge 6, 3), none, none, some (.iinc 1 1, 3), none, none, some (.iinc 2 1, 3), none, none, some (.goto (-21), 3), none, none, some (.iload_n 1, 1), some (.ireturn, 1)]]
/-- X8_exchanges -/
def jv_c173 : List (List jv_I) := [[some (.aload_n 0, 1), some (.iload_n 1, 1), some (.iconst 0, 1), some (.invokestatic 54, 3), none, none, some (.iaload, 1), some (.istore_n 3, 1), some (.aload_n 0, 1), some (.iload_n 1, 1), some (.iconst 0, 1), some (.invokestatic 54, 3), none, none, some (.aload_n 0, 1), some (.iload_n 2, 1)], [some (.iconst 0, 1), some (.invokestatic 54, 3), none, none, some (.iaload, 1), some (.iastore, 1), some (.aload_n 0, 1), some (.iload_n 2, 1), some (.iconst 0, 1), some (.invokestatic 54, 3), none, none, some (.iload_n 3, 1), some (.iastore, 1), some (.return_, 1)]]
/-- X8_turns -/
def jv_c174 : List (List jv_I) := [[some (.aload_n 0, 1), some (.iload_n 1, 1), some (.iconst 0, 1), some (.invokestatic 54, 3), none, none, some (.iaload, 1), some (.istore 4, 2), none, some (.aload_n 0, 1), some (.iload_n 1, 1), some (.iconst 0, 1), some (.invokestatic 54, 3), none, none, some (.aload_n 0, 1)], [some (.iload_n 2, 1), some (.iconst 0, 1), some (.invokestatic 54, 3), none, none, some (.iaload, 1), some (.iastore, 1), some (.aload_n 0, 1), some (.iload_n 2, 1), some (.iconst 0, 1), some (.invokestatic 54, 3), none, none, some (.aload_n 0, 1), some (.iload_n 3, 1), some (.iconst 0, 1)], [some (.invokestatic 54, 3), none, none, some (.iaload, 1), some (.iastore, 1), some (.aload_n 0, 1), some (.iload_n 3, 1), some (.iconst 0, 1), some (.invokestatic 54, 3), none, none, some (.iload 4, 2), none, some (.iastore, 1), some (.return_, 1)]]
/-- X8_riseBySwap -/
def jv_c175 : List (List jv_I) := [[some (.aload_n 0, 1), some (.iload_n 3, 1), some (.invokestatic 81, 3), none, none, some (.istore 4, 2), none, some (.aload_n 0, 1), some (.iload_n 1, 1), some (.iload_n 2, 1), some (.invokestatic 85, 3), none, none, some (.aload_n 0, 1), some (.iload_n 3, 1), some (.invokestatic 81, 3)], [none, none, some (.istore 5, 2), none, some (.aload_n 0, 1), some (.iload_n 1, 1), some (.iload_n 2, 1), some (.invokestatic 85, 3), none, none, some (.iload 5, 2), none, some (.iload 4, 2), none, some (.isub, 1), some (.ireturn, 1)]]
/-- X8_whySwapped -/
def jv_c176 : List (List jv_I) := [[some (.aload_n 0, 1), some (.iload_n 1, 1), some (.aload_n 0, 1), some (.iload_n 2, 1), some (.iconst 0, 1), some (.invokestatic 54, 3), none, none, some (.iaload, 1), some (.invokestatic 89, 3), none, none, some (.ifCond .eq 18, 3), none, none, some (.aload_n 0, 1)], [some (.iload_n 2, 1), some (.aload_n 0, 1), some (.iload_n 1, 1), some (.iconst 0, 1), some (.invokestatic 54, 3), none, none, some (.iaload, 1), some (.invokestatic 89, 3), none, none, some (.ifCond .ne 5, 3), none, none, some (.iconst 1, 1), some (.ireturn, 1)], [some (.aload_n 0, 1), some (.iload_n 1, 1), some (.bipush 7, 2), none, some (.invokestatic 54, 3), none, none, some (.iaload, 1), some (.iload_n 3, 1), some (.if_icmp .ge 5, 3), none, none, some (.iconst 2, 1), some (.ireturn, 1), some (.aload_n 0, 1), some (.iload_n 1, 1)], [some (.iload_n 2, 1), some (.iload_n 1, 1), some (.invokestatic 93, 3), none, none, some (.iload_n 3, 1), some (.if_icmp .ge 5, 3), none, none, some (.iconst 3, 1), some (.ireturn, 1), some (.aload_n 0, 1), some (.iload_n 1, 1), some (.iload_n 2, 1), some (.iload_n 2, 1), some (.invokestatic 93, 3)], [none, none, some (.iload_n 3, 1), some (.ineg, 1), some (.if_icmp .ge 7, 3), none, none, some (.iconst 4, 1), some (.goto 4, 3), none, none, some (.iconst 0, 1), some (.ireturn, 1)]]
/-- X8_whyMoved -/
def jv_c177 : List (List jv_I) := [[some (.aload_n 0, 1), some (.iload_n 2, 1), some (.invokestatic 97, 3), none, none, some (.ifCond .lt 5, 3), none, none, some (.iconst 5, 1), some (.ireturn, 1), some (.aload_n 0, 1), some (.iload_n 1, 1), some (.iload_n 2, 1), some (.invokestatic 89, 3), none, none], [some (.ifCond .ne 5, 3), none, none, some (.iconst 1, 1), some (.ireturn, 1), some (.aload_n 0, 1), some (.iload_n 1, 1), some (.iload_n 2, 1), some (.invokestatic 78, 3), none, none, some (.aload_n 0, 1), some (.iload_n 1, 1), some (.invokestatic 81, 3), none, none], [some (.if_icmp .ge 8, 3), none, none, some (.bipush 6, 2), none, some (.goto 4, 3), none, none, some (.iconst 0, 1), some (.ireturn, 1)]]
/-- X8_riseByRing -/
def jv_c178 : List (List jv_I) := [[some (.aload_n 0, 1), some (.iload 4, 2), none, some (.invokestatic 81, 3), none, none, some (.istore 5, 2), none, some (.aload_n 0, 1), some (.iload_n 1, 1), some (.iload_n 2, 1), some (.iload_n 3, 1), some (.invokestatic 100, 3), none, none, some (.aload_n 0, 1)], [some (.iload 4, 2), none, some (.invokestatic 81, 3), none, none, some (.istore 6, 2), none, some (.aload_n 0, 1), some (.iload_n 3, 1), some (.iload_n 2, 1), some (.iload_n 1, 1), some (.invokestatic 100, 3), none, none, some (.iload 6, 2), none], [some (.iload 5, 2), none, some (.isub, 1), some (.ireturn, 1)]]
/-- X8_whyRing -/
def jv_c179 : List (List jv_I) := [[some (.aload_n 0, 1), some (.iload_n 1, 1), some (.aload_n 0, 1), some (.iload_n 2, 1), some (.iconst 0, 1), some (.invokestatic 54, 3), none, none, some (.iaload, 1), some (.invokestatic 89, 3), none, none, some (.ifCond .eq 33, 3), none, none, some (.aload_n 0, 1)], [some (.iload_n 2, 1), some (.aload_n 0, 1), some (.iload_n 3, 1), some (.iconst 0, 1), some (.invokestatic 54, 3), none, none, some (.iaload, 1), some (.invokestatic 89, 3), none, none, some (.ifCond .eq 18, 3), none, none, some (.aload_n 0, 1), some (.iload_n 3, 1)], [some (.aload_n 0, 1), some (.iload_n 1, 1), some (.iconst 0, 1), some (.invokestatic 54, 3), none, none, some (.iaload, 1), some (.invokestatic 89, 3), none, none, some (.ifCond .ne 5, 3), none, none, some (.iconst 1, 1), some (.ireturn, 1), some (.aload_n 0, 1)], [some (.iload_n 1, 1), some (.iload_n 2, 1), some (.iload_n 3, 1), some (.iload_n 1, 1), some (.invokestatic 104, 3), none, none, some (.ifCond .ge 6, 3), none, none, some (.bipush 6, 2), none, some (.ireturn, 1), some (.aload_n 0, 1), some (.iload_n 1, 1), some (.iload_n 2, 1)], [some (.iload_n 3, 1), some (.iload_n 2, 1), some (.invokestatic 104, 3), none, none, some (.ifCond .ge 6, 3), none, none, some (.bipush 6, 2), none, some (.ireturn, 1), some (.aload_n 0, 1), some (.iload_n 1, 1), some (.iload_n 2, 1), some (.iload_n 3, 1), some (.iload_n 3, 1)], [some (.invokestatic 104, 3), none, none, some (.ifCond .ge 8, 3), none, none, some (.bipush 6, 2), none, some (.goto 4, 3), none, none, some (.iconst 0, 1), some (.ireturn, 1)]]
/-- X8_riseOfRing -/
def jv_c180 : List (List jv_I) := [[some (.aload_n 0, 1), some (.iload_n 1, 1), some (.iload_n 2, 1), some (.iload_n 3, 1), some (.iload_n 1, 1), some (.invokestatic 104, 3), none, none, some (.aload_n 0, 1), some (.iload_n 1, 1), some (.iload_n 2, 1), some (.iload_n 3, 1), some (.iload_n 2, 1), some (.invokestatic 104, 3), none, none], [some (.iadd, 1), some (.aload_n 0, 1), some (.iload_n 1, 1), some (.iload_n 2, 1), some (.iload_n 3, 1), some (.iload_n 3, 1), some (.invokestatic 104, 3), none, none, some (.iadd, 1), some (.ireturn, 1)]]
/-- X8_riseOfAll -/
def jv_c181 : List (List jv_I) := [[some (.aload_n 0, 1), some (.invokestatic 108, 3), none, none, some (.istore_n 3, 1), some (.aload_n 0, 1), some (.iload_n 1, 1), some (.iload_n 2, 1), some (.invokestatic 85, 3), none, none, some (.aload_n 0, 1), some (.invokestatic 108, 3), none, none, some (.istore 4, 2)], [none, some (.aload_n 0, 1), some (.iload_n 1, 1), some (.iload_n 2, 1), some (.invokestatic 85, 3), none, none, some (.iload 4, 2), none, some (.iload_n 3, 1), some (.isub, 1), some (.ireturn, 1)]]
/-- X8_bestSwap -/
def jv_c182 : List (List jv_I) := [[some (.bipush (-2), 2), none, some (.istore_n 1, 1), some (.iconst 0, 1), some (.istore_n 2, 1), some (.iconst 0, 1), some (.istore_n 3, 1), some (.iload_n 3, 1), some (.aload_n 0, 1), some (.iconst 3, 1), some (.iaload, 1), some (.if_icmp .ge 75, 3), none, none, some (.iconst 0, 1), some (.istore 4, 2)], [none, some (.iload 4, 2), none, some (.aload_n 0, 1), some (.iconst 3, 1), some (.iaload, 1), some (.if_icmp .ge 58, 3), none, none, some (.iload_n 3, 1), some (.iload 4, 2), none, some (.if_icmp .eq 46, 3), none, none, some (.aload_n 0, 1)], [some (.iload_n 3, 1), some (.iload 4, 2), none, some (.iconst 0, 1), some (.invokestatic 112, 3), none, none, some (.ifCond .le 6, 3), none, none, some (.goto 32, 3), none, none, some (.aload_n 0, 1), some (.iload_n 3, 1), some (.iload 4, 2)], [none, some (.invokestatic 115, 3), none, none, some (.istore 5, 2), none, some (.iload 5, 2), none, some (.iload_n 2, 1), some (.if_icmp .gt 6, 3), none, none, some (.goto 14, 3), none, none, some (.bipush 100, 2)], [none, some (.iload_n 3, 1), some (.imul, 1), some (.iload 4, 2), none, some (.iadd, 1), some (.istore_n 1, 1), some (.iload 5, 2), none, some (.istore_n 2, 1), some (.iinc 4 1, 3), none, none, some (.goto (-60), 3), none, none], [some (.iinc 3 1, 3), none, none, some (.goto (-76), 3), none, none, some (.iload_n 1, 1), some (.ireturn, 1)]]
/-- X8_settles -/
def jv_c183 : List (List jv_I) := [[some (.iconst 0, 1), some (.istore_n 1, 1), some (.aload_n 0, 1), some (.invokestatic 118, 3), none, none, some (.istore_n 2, 1), some (.iload_n 2, 1), some (.ifCond .lt 32, 3), none, none, some (.iload_n 1, 1), some (.bipush 99, 2), none, some (.if_icmp .ge 26, 3), none], [none, some (.aload_n 0, 1), some (.iload_n 2, 1), some (.bipush 100, 2), none, some (.idiv, 1), some (.iload_n 2, 1), some (.bipush 100, 2), none, some (.irem, 1), some (.invokestatic 85, 3), none, none, some (.iinc 1 1, 3), none, none], [some (.aload_n 0, 1), some (.invokestatic 118, 3), none, none, some (.istore_n 2, 1), some (.goto (-30), 3), none, none, some (.iload_n 1, 1), some (.ireturn, 1)]]
/-- X8_append -/
def jv_c184 : List (List jv_I) := [[some (.aload_n 0, 1), some (.getfield 121, 3), none, none, some (.bipush 20, 2), none, some (.iadd, 1), some (.sipush 1000, 3), none, none, some (.if_icmp .le 5, 3), none, none, some (.iconst (-1), 1), some (.ireturn, 1), some (.iconst 0, 1)], [some (.istore 6, 2), none, some (.iload 6, 2), none, some (.bipush 20, 2), none, some (.if_icmp .ge 93, 3), none, none, some (.iload 6, 2), none, some (.iconst 4, 1), some (.if_icmp .ge 7, 3), none, none, some (.iload_n 1, 1)], [some (.goto 39, 3), none, none, some (.iload 6, 2), none, some (.bipush 8, 2), none, some (.if_icmp .ge 7, 3), none, none, some (.iload_n 2, 1), some (.goto 28, 3), none, none, some (.iload 6, 2), none], [some (.bipush 12, 2), none, some (.if_icmp .ge 7, 3), none, none, some (.iload_n 3, 1), some (.goto 17, 3), none, none, some (.iload 6, 2), none, some (.bipush 16, 2), none, some (.if_icmp .ge 8, 3), none, none], [some (.iload 4, 2), none, some (.goto 5, 3), none, none, some (.iload 5, 2), none, some (.istore 7, 2), none, some (.aload_n 0, 1), some (.getfield 29, 3), none, none, some (.aload_n 0, 1), some (.getfield 121, 3), none], [none, some (.iload 7, 2), none, some (.bipush 24, 2), none, some (.bipush 8, 2), none, some (.iload 6, 2), none, some (.iconst 4, 1), some (.irem, 1), some (.imul, 1), some (.isub, 1), some (.ishr, 1), some (.sipush 255, 3), none], [none, some (.iand, 1), some (.iastore, 1), some (.aload_n 0, 1), some (.dup, 1), some (.getfield 121, 3), none, none, some (.iconst 1, 1), some (.iadd, 1), some (.putfield 121, 3), none, none, some (.iinc 6 1, 3), none, none], [some (.goto (-94), 3), none, none, some (.aload_n 0, 1), some (.getfield 121, 3), none, none, some (.ireturn, 1)]]
/-- X8_truncate -/
def jv_c185 : List (List jv_I) := [[some (.iload_n 1, 1), some (.ifCond .lt 11, 3), none, none, some (.iload_n 1, 1), some (.aload_n 0, 1), some (.getfield 121, 3), none, none, some (.if_icmp .le 5, 3), none, none, some (.iconst (-1), 1), some (.ireturn, 1), some (.aload_n 0, 1), some (.dup, 1)], [some (.getfield 121, 3), none, none, some (.iload_n 1, 1), some (.isub, 1), some (.putfield 121, 3), none, none, some (.aload_n 0, 1), some (.getfield 121, 3), none, none, some (.ireturn, 1)]]
/-- X8_errorPosition -/
def jv_c186 : List (List jv_I) := [[some (.aload_n 0, 1), some (.getfield 32, 3), none, none, some (.ireturn, 1)]]
/-- X8_isSmall -/
def jv_c187 : List (List jv_I) := [[some (.iload_n 1, 1), some (.aload_n 0, 1), some (.getfield 121, 3), none, none, some (.if_icmp .ge 29, 3), none, none, some (.aload_n 0, 1), some (.getfield 29, 3), none, none, some (.iload_n 1, 1), some (.iaload, 1), some (.bipush 97, 2), none], [some (.if_icmp .lt 18, 3), none, none, some (.aload_n 0, 1), some (.getfield 29, 3), none, none, some (.iload_n 1, 1), some (.iaload, 1), some (.bipush 122, 2), none, some (.if_icmp .gt 7, 3), none, none, some (.iconst 1, 1), some (.goto 4, 3)], [none, none, some (.iconst 0, 1), some (.ireturn, 1)]]
/-- X8_isDigit -/
def jv_c188 : List (List jv_I) := [[some (.iload_n 1, 1), some (.aload_n 0, 1), some (.getfield 121, 3), none, none, some (.if_icmp .ge 29, 3), none, none, some (.aload_n 0, 1), some (.getfield 29, 3), none, none, some (.iload_n 1, 1), some (.iaload, 1), some (.bipush 48, 2), none], [some (.if_icmp .lt 18, 3), none, none, some (.aload_n 0, 1), some (.getfield 29, 3), none, none, some (.iload_n 1, 1), some (.iaload, 1), some (.bipush 57, 2), none, some (.if_icmp .gt 7, 3), none, none, some (.iconst 1, 1), some (.goto 4, 3)], [none, none, some (.iconst 0, 1), some (.ireturn, 1)]]
/-- X8_next -/
def jv_c189 : List (List jv_I) := [[some (.aload_n 0, 1), some (.getfield 124, 3), none, none, some (.aload_n 0, 1), some (.getfield 121, 3), none, none, some (.if_icmp .ge 44, 3), none, none, some (.aload_n 0, 1), some (.getfield 29, 3), none, none, some (.aload_n 0, 1)], [some (.getfield 124, 3), none, none, some (.iaload, 1), some (.bipush 32, 2), none, some (.if_icmp .eq 17, 3), none, none, some (.aload_n 0, 1), some (.getfield 29, 3), none, none, some (.aload_n 0, 1), some (.getfield 124, 3), none], [none, some (.iaload, 1), some (.bipush 10, 2), none, some (.if_icmp .ne 16, 3), none, none, some (.aload_n 0, 1), some (.dup, 1), some (.getfield 124, 3), none, none, some (.iconst 1, 1), some (.iadd, 1), some (.putfield 124, 3), none], [none, some (.goto (-49), 3), none, none, some (.aload_n 0, 1), some (.aload_n 0, 1), some (.getfield 124, 3), none, none, some (.putfield 127, 3), none, none, some (.aload_n 0, 1), some (.iconst 0, 1), some (.putfield 130, 3), none], [none, some (.aload_n 0, 1), some (.getfield 124, 3), none, none, some (.aload_n 0, 1), some (.getfield 121, 3), none, none, some (.if_icmp .ne 11, 3), none, none, some (.aload_n 0, 1), some (.iconst 0, 1), some (.putfield 133, 3), none], [none, some (.goto 109, 3), none, none, some (.aload_n 0, 1), some (.aload_n 0, 1), some (.getfield 124, 3), none, none, some (.invokevirtual 136, 3), none, none, some (.ifCond .eq 10, 3), none, none, some (.aload_n 0, 1)], [some (.invokevirtual 139, 3), none, none, some (.goto 91, 3), none, none, some (.aload_n 0, 1), some (.aload_n 0, 1), some (.getfield 124, 3), none, none, some (.invokevirtual 142, 3), none, none, some (.ifCond .eq 10, 3), none], [none, some (.aload_n 0, 1), some (.invokevirtual 145, 3), none, none, some (.goto 73, 3), none, none, some (.aload_n 0, 1), some (.aload_n 0, 1), some (.getfield 29, 3), none, none, some (.aload_n 0, 1), some (.getfield 124, 3), none], [none, some (.iaload, 1), some (.bipush 59, 2), none, some (.if_icmp .ne 7, 3), none, none, some (.iconst 3, 1), some (.goto 41, 3), none, none, some (.aload_n 0, 1), some (.getfield 29, 3), none, none, some (.aload_n 0, 1)], [some (.getfield 124, 3), none, none, some (.iaload, 1), some (.bipush 43, 2), none, some (.if_icmp .ne 7, 3), none, none, some (.iconst 4, 1), some (.goto 23, 3), none, none, some (.aload_n 0, 1), some (.getfield 29, 3), none], [none, some (.aload_n 0, 1), some (.getfield 124, 3), none, none, some (.iaload, 1), some (.bipush 45, 2), none, some (.if_icmp .ne 7, 3), none, none, some (.iconst 5, 1), some (.goto 5, 3), none, none, some (.bipush 6, 2)], [none, some (.putfield 133, 3), none, none, some (.aload_n 0, 1), some (.dup, 1), some (.getfield 124, 3), none, none, some (.iconst 1, 1), some (.iadd, 1), some (.putfield 124, 3), none, none, some (.return_, 1)]]
/-- X8_nextWord -/
def jv_c190 : List (List jv_I) := [[some (.aload_n 0, 1), some (.aload_n 0, 1), some (.getfield 124, 3), none, none, some (.invokevirtual 136, 3), none, none, some (.ifCond .eq 54, 3), none, none, some (.aload_n 0, 1), some (.getfield 124, 3), none, none, some (.aload_n 0, 1)], [some (.getfield 127, 3), none, none, some (.isub, 1), some (.bipush 6, 2), none, some (.if_icmp .ge 27, 3), none, none, some (.aload_n 0, 1), some (.bipush 27, 2), none, some (.aload_n 0, 1), some (.getfield 130, 3), none, none], [some (.imul, 1), some (.aload_n 0, 1), some (.getfield 29, 3), none, none, some (.aload_n 0, 1), some (.getfield 124, 3), none, none, some (.iaload, 1), some (.iadd, 1), some (.bipush 96, 2), none, some (.isub, 1), some (.putfield 130, 3), none], [none, some (.aload_n 0, 1), some (.dup, 1), some (.getfield 124, 3), none, none, some (.iconst 1, 1), some (.iadd, 1), some (.putfield 124, 3), none, none, some (.goto (-59), 3), none, none, some (.aload_n 0, 1), some (.aload_n 0, 1)], [some (.getfield 124, 3), none, none, some (.aload_n 0, 1), some (.getfield 127, 3), none, none, some (.isub, 1), some (.bipush 6, 2), none, some (.if_icmp .le 8, 3), none, none, some (.bipush 6, 2), none, some (.goto 4, 3)], [none, none, some (.iconst 1, 1), some (.putfield 133, 3), none, none, some (.return_, 1)]]
/-- X8_nextNumber -/
def jv_c191 : List (List jv_I) := [[some (.aload_n 0, 1), some (.aload_n 0, 1), some (.getfield 124, 3), none, none, some (.invokevirtual 142, 3), none, none, some (.ifCond .eq 53, 3), none, none, some (.aload_n 0, 1), some (.getfield 124, 3), none, none, some (.aload_n 0, 1)], [some (.getfield 127, 3), none, none, some (.isub, 1), some (.iconst 2, 1), some (.if_icmp .ge 27, 3), none, none, some (.aload_n 0, 1), some (.bipush 10, 2), none, some (.aload_n 0, 1), some (.getfield 130, 3), none, none, some (.imul, 1)], [some (.aload_n 0, 1), some (.getfield 29, 3), none, none, some (.aload_n 0, 1), some (.getfield 124, 3), none, none, some (.iaload, 1), some (.iadd, 1), some (.bipush 48, 2), none, some (.isub, 1), some (.putfield 130, 3), none, none], [some (.aload_n 0, 1), some (.dup, 1), some (.getfield 124, 3), none, none, some (.iconst 1, 1), some (.iadd, 1), some (.putfield 124, 3), none, none, some (.goto (-58), 3), none, none, some (.aload_n 0, 1), some (.aload_n 0, 1), some (.getfield 124, 3)], [none, none, some (.aload_n 0, 1), some (.getfield 127, 3), none, none, some (.isub, 1), some (.iconst 2, 1), some (.if_icmp .le 8, 3), none, none, some (.bipush 6, 2), none, some (.goto 4, 3), none, none], [some (.iconst 2, 1), some (.putfield 133, 3), none, none, some (.return_, 1)]]
/-- X8_is -/
def jv_c192 : List (List jv_I) := [[some (.aload_n 0, 1), some (.getfield 133, 3), none, none, some (.iconst 1, 1), some (.if_icmp .ne 15, 3), none, none, some (.aload_n 0, 1), some (.getfield 130, 3), none, none, some (.iload_n 1, 1), some (.if_icmp .ne 7, 3), none, none], [some (.iconst 1, 1), some (.goto 4, 3), none, none, some (.iconst 0, 1), some (.ireturn, 1)]]
/-- X8_isKeyword -/
def jv_c193 : List (List jv_I) := [[some (.iload_n 0, 1), some (.lookupswitch 93 #[(13550, 91), (377669, 91), (388978, 91), (692581, 91), (3379448, 91), (10984100, 91), (86887672, 91), (284954995, 91), (291828332, 91), (335086736, 91)], 91), none, none, none, none, none, none, none, none, none, none, none, none, none, none], [none, none, none, none, none, none, none, none, none, none, none, none, none, none, none, none], [none, none, none, none, none, none, none, none, none, none, none, none, none, none, none, none], [none, none, none, none, none, none, none, none, none, none, none, none, none, none, none, none], [none, none, none, none, none, none, none, none, none, none, none, none, none, none, none, none], [none, none, none, none, none, none, none, none, none, none, none, none, some (.iconst 1, 1), some (.ireturn, 1), some (.iconst 0, 1), some (.ireturn, 1)]]
/-- X8_takes -/
def jv_c194 : List (List jv_I) := [[some (.aload_n 0, 1), some (.getfield 148, 3), none, none, some (.ifCond .eq 5, 3), none, none, some (.iconst 0, 1), some (.ireturn, 1), some (.iload_n 1, 1), some (.ifCond .ne 18, 3), none, none, some (.aload_n 0, 1), some (.iconst 1, 1), some (.putfield 148, 3)], [none, none, some (.aload_n 0, 1), some (.aload_n 0, 1), some (.getfield 127, 3), none, none, some (.putfield 32, 3), none, none, some (.iconst 0, 1), some (.ireturn, 1), some (.aload_n 0, 1), some (.invokevirtual 152, 3), none, none], [some (.iconst 1, 1), some (.ireturn, 1)]]
/-- X8_takesNumber -/
def jv_c195 : List (List jv_I) := [[some (.aload_n 0, 1), some (.getfield 130, 3), none, none, some (.istore_n 3, 1), some (.aload_n 0, 1), some (.aload_n 0, 1), some (.getfield 133, 3), none, none, some (.iconst 2, 1), some (.if_icmp .ne 16, 3), none, none, some (.iload_n 3, 1), some (.iload_n 1, 1)], [some (.iload_n 2, 1), some (.invokestatic 46, 3), none, none, some (.ifCond .eq 7, 3), none, none, some (.iconst 1, 1), some (.goto 4, 3), none, none, some (.iconst 0, 1), some (.invokevirtual 155, 3), none, none, some (.ifCond .eq 7, 3)], [none, none, some (.iload_n 3, 1), some (.goto 4, 3), none, none, some (.iconst 0, 1), some (.ireturn, 1)]]
/-- X8_takesWord -/
def jv_c196 : List (List jv_I) := [[some (.aload_n 0, 1), some (.getfield 148, 3), none, none, some (.ifCond .ne 11, 3), none, none, some (.aload_n 0, 1), some (.iload_n 1, 1), some (.invokevirtual 159, 3), none, none, some (.ifCond .ne 5, 3), none, none, some (.iconst 0, 1)], [some (.ireturn, 1), some (.aload_n 0, 1), some (.invokevirtual 152, 3), none, none, some (.iconst 1, 1), some (.ireturn, 1)]]
/-- X8_takesLike -/
def jv_c197 : List (List jv_I) := [[some (.aload_n 0, 1), some (.getfield 133, 3), none, none, some (.iconst 5, 1), some (.if_icmp .ne 7, 3), none, none, some (.iconst (-1), 1), some (.goto 4, 3), none, none, some (.iconst 1, 1), some (.istore_n 1, 1), some (.aload_n 0, 1), some (.aload_n 0, 1)], [some (.getfield 133, 3), none, none, some (.iconst 5, 1), some (.if_icmp .eq 11, 3), none, none, some (.aload_n 0, 1), some (.getfield 133, 3), none, none, some (.iconst 4, 1), some (.if_icmp .ne 7, 3), none, none, some (.iconst 1, 1)], [some (.goto 4, 3), none, none, some (.iconst 0, 1), some (.invokevirtual 155, 3), none, none, some (.pop, 1), some (.iload_n 1, 1), some (.aload_n 0, 1), some (.iconst 0, 1), some (.bipush 9, 2), none, some (.invokevirtual 162, 3), none, none], [some (.imul, 1), some (.ireturn, 1)]]
/-- X8_isName -/
def jv_c198 : List (List jv_I) := [[some (.iload_n 0, 1), some (.invokestatic 165, 3), none, none, some (.iconst 5, 1), some (.if_icmp .gt 14, 3), none, none, some (.iload_n 0, 1), some (.invokestatic 168, 3), none, none, some (.ifCond .ne 7, 3), none, none, some (.iconst 1, 1)], [some (.goto 4, 3), none, none, some (.iconst 0, 1), some (.ireturn, 1)]]
/-- X8_nameSize -/
def jv_c199 : List (List jv_I) := [[some (.iconst 0, 1), some (.istore_n 1, 1), some (.iload_n 0, 1), some (.istore_n 2, 1), some (.iload_n 2, 1), some (.ifCond .le 14, 3), none, none, some (.iinc 1 1, 3), none, none, some (.iload_n 2, 1), some (.bipush 27, 2), none, some (.idiv, 1), some (.istore_n 2, 1)], [some (.goto (-12), 3), none, none, some (.iload_n 1, 1), some (.ireturn, 1)]]
/-- X8_letterOf -/
def jv_c200 : List (List jv_I) := [[some (.iload_n 0, 1), some (.istore_n 2, 1), some (.iload_n 0, 1), some (.invokestatic 165, 3), none, none, some (.iconst 1, 1), some (.isub, 1), some (.istore_n 3, 1), some (.iload_n 3, 1), some (.iload_n 1, 1), some (.if_icmp .le 14, 3), none, none, some (.iload_n 2, 1), some (.bipush 27, 2)], [none, some (.idiv, 1), some (.istore_n 2, 1), some (.iinc 3 (-1), 3), none, none, some (.goto (-13), 3), none, none, some (.iload_n 2, 1), some (.bipush 27, 2), none, some (.irem, 1), some (.ireturn, 1)]]
/-- X8_starts -/
def jv_c201 : List (List jv_I) := [[some (.aload_n 0, 1), some (.iconst 3, 1), some (.iaload, 1), some (.istore_n 3, 1), some (.iconst 0, 1), some (.istore 4, 2), none, some (.iload 4, 2), none, some (.bipush 10, 2), none, some (.if_icmp .ge 18, 3), none, none, some (.aload_n 0, 1), some (.iload_n 3, 1)], [some (.iload 4, 2), none, some (.invokestatic 54, 3), none, none, some (.iconst 0, 1), some (.iastore, 1), some (.iinc 4 1, 3), none, none, some (.goto (-19), 3), none, none, some (.aload_n 0, 1), some (.iload_n 3, 1), some (.iconst 0, 1)], [some (.invokestatic 54, 3), none, none, some (.iload_n 1, 1), some (.iastore, 1), some (.aload_n 0, 1), some (.iload_n 3, 1), some (.bipush 9, 2), none, some (.invokestatic 54, 3), none, none, some (.iload_n 2, 1), some (.iastore, 1), some (.aload_n 0, 1), some (.iload_n 3, 1)], [some (.bipush 8, 2), none, some (.invokestatic 54, 3), none, none, some (.bipush 99, 2), none, some (.iastore, 1), some (.return_, 1)]]
/-- X8_readSeat -/
def jv_c202_0 : List (List jv_I) := [[some (.aload_n 0, 1), some (.aload_n 0, 1), some (.getfield 13, 3), none, none, some (.iconst 3, 1), some (.iaload, 1), some (.bipush 20, 2), none, some (.if_icmp .ge 7, 3), none, none, some (.iconst 1, 1), some (.goto 4, 3), none, none], [some (.iconst 0, 1), some (.invokevirtual 155, 3), none, none, some (.ifCond .ne 4, 3), none, none, some (.return_, 1), some (.aload_n 0, 1), some (.getfield 13, 3), none, none, some (.iconst 3, 1), some (.iaload, 1), some (.istore_n 1, 1), some (.aload_n 0, 1)], [some (.getfield 130, 3), none, none, some (.istore_n 2, 1), some (.aload_n 0, 1), some (.aload_n 0, 1), some (.getfield 133, 3), none, none, some (.iconst 2, 1), some (.if_icmp .ne 30, 3), none, none, some (.iload_n 2, 1), some (.iconst 4, 1), some (.aload_n 0, 1)], [some (.getfield 13, 3), none, none, some (.iconst 0, 1), some (.iaload, 1), some (.imul, 1), some (.if_icmp .ge 18, 3), none, none, some (.aload_n 0, 1), some (.getfield 13, 3), none, none, some (.iload_n 2, 1), some (.invokestatic 97, 3), none], [none, some (.ifCond .ge 7, 3), none, none, some (.iconst 1, 1), some (.goto 4, 3), none, none, some (.iconst 0, 1), some (.invokevirtual 155, 3), none, none, some (.pop, 1), some (.aload_n 0, 1), some (.getfield 130, 3), none], [none, some (.istore_n 3, 1), some (.aload_n 0, 1), some (.aload_n 0, 1), some (.getfield 133, 3), none, none, some (.iconst 1, 1), some (.if_icmp .ne 14, 3), none, none, some (.iload_n 3, 1), some (.invokestatic 171, 3), none, none, some (.ifCond .eq 7, 3)], [none, none, some (.iconst 1, 1), some (.goto 4, 3), none, none, some (.iconst 0, 1), some (.invokevirtual 155, 3), none, none, some (.ifCond .ne 4, 3), none, none, some (.return_, 1), some (.aload_n 0, 1), some (.getfield 13, 3)], [none, none, some (.iload_n 2, 1), some (.iload_n 3, 1), some (.invokestatic 174, 3), none, none, some (.aload_n 0, 1), some (.ldc 177, 2), none, some (.invokevirtual 178, 3), none, none, some (.ifCond .eq 14, 3), none, none], [some (.aload_n 0, 1), some (.getfield 13, 3), none, none, some (.iload_n 1, 1), some (.iconst 1, 1), some (.invokestatic 54, 3), none, none, some (.iconst 1, 1), some (.iastore, 1), some (.aload_n 0, 1), some (.ldc 181, 2), none, some (.invokevirtual 178, 3), none], [none, some (.ifCond .eq 20, 3), none, none, some (.aload_n 0, 1), some (.getfield 13, 3), none, none, some (.iload_n 1, 1), some (.iconst 2, 1), some (.invokestatic 54, 3), none, none, some (.aload_n 0, 1), some (.iconst 1, 1), some (.bipush 9, 2)], [none, some (.invokevirtual 162, 3), none, none, some (.iastore, 1), some (.aload_n 0, 1), some (.ldc 182, 2), none, some (.invokevirtual 178, 3), none, none, some (.ifCond .eq 17, 3), none, none, some (.aload_n 0, 1), some (.getfield 13, 3)], [none, none, some (.iload_n 1, 1), some (.iconst 3, 1), some (.invokestatic 54, 3), none, none, some (.aload_n 0, 1), some (.invokevirtual 183, 3), none, none, some (.iastore, 1), some (.aload_n 0, 1), some (.ldc 187, 2), none, some (.invokevirtual 178, 3)]]
def jv_c202_1 : List (List jv_I) := [[none, none, some (.ifCond .eq 17, 3), none, none, some (.aload_n 0, 1), some (.getfield 13, 3), none, none, some (.iload_n 1, 1), some (.iconst 4, 1), some (.invokestatic 54, 3), none, none, some (.aload_n 0, 1), some (.invokevirtual 183, 3)], [none, none, some (.iastore, 1), some (.aload_n 0, 1), some (.sipush 13550, 3), none, none, some (.invokevirtual 178, 3), none, none, some (.ifCond .eq 43, 3), none, none, some (.aload_n 0, 1), some (.getfield 13, 3), none], [none, some (.iload_n 1, 1), some (.iconst 5, 1), some (.invokestatic 54, 3), none, none, some (.aload_n 0, 1), some (.iconst 0, 1), some (.aload_n 0, 1), some (.getfield 13, 3), none, none, some (.iconst 0, 1), some (.iaload, 1), some (.iconst 1, 1), some (.isub, 1)], [some (.invokevirtual 162, 3), none, none, some (.iastore, 1), some (.aload_n 0, 1), some (.getfield 13, 3), none, none, some (.iload_n 1, 1), some (.bipush 6, 2), none, some (.invokestatic 54, 3), none, none, some (.aload_n 0, 1), some (.iconst 0, 1)], [some (.iconst 3, 1), some (.invokevirtual 162, 3), none, none, some (.iastore, 1), some (.aload_n 0, 1), some (.ldc 188, 2), none, some (.invokevirtual 178, 3), none, none, some (.ifCond .eq 21, 3), none, none, some (.aload_n 0, 1), some (.getfield 13, 3)], [none, none, some (.iload_n 1, 1), some (.bipush 7, 2), none, some (.invokestatic 54, 3), none, none, some (.aload_n 0, 1), some (.iconst 0, 1), some (.bipush 99, 2), none, some (.invokevirtual 162, 3), none, none, some (.iastore, 1)], [some (.aload_n 0, 1), some (.ldc 189, 2), none, some (.invokevirtual 178, 3), none, none, some (.ifCond .eq 21, 3), none, none, some (.aload_n 0, 1), some (.getfield 13, 3), none, none, some (.iload_n 1, 1), some (.bipush 8, 2), none], [some (.invokestatic 54, 3), none, none, some (.aload_n 0, 1), some (.iconst 1, 1), some (.bipush 99, 2), none, some (.invokevirtual 162, 3), none, none, some (.iastore, 1), some (.aload_n 0, 1), some (.aload_n 0, 1), some (.getfield 133, 3), none, none], [some (.iconst 3, 1), some (.if_icmp .ne 19, 3), none, none, some (.aload_n 0, 1), some (.getfield 13, 3), none, none, some (.iload_n 1, 1), some (.iload_n 2, 1), some (.invokestatic 89, 3), none, none, some (.ifCond .eq 7, 3), none, none], [some (.iconst 1, 1), some (.goto 4, 3), none, none, some (.iconst 0, 1), some (.invokevirtual 155, 3), none, none, some (.ifCond .eq 13, 3), none, none, some (.aload_n 0, 1), some (.getfield 13, 3), none, none, some (.iconst 3, 1)], [some (.dup2, 1), some (.iaload, 1), some (.iconst 1, 1), some (.iadd, 1), some (.iastore, 1), some (.return_, 1)]]
def jv_c202 : List (List jv_I) := jv_c202_0 ++ jv_c202_1
/-- X8_load -/
def jv_c203_0 : List (List jv_I) := [[some (.iconst 0, 1), some (.istore_n 1, 1), some (.iload_n 1, 1), some (.sipush 330, 3), none, none, some (.if_icmp .ge 16, 3), none, none, some (.aload_n 0, 1), some (.getfield 13, 3), none, none, some (.iload_n 1, 1), some (.iconst 0, 1), some (.iastore, 1)], [some (.iinc 1 1, 3), none, none, some (.goto (-17), 3), none, none, some (.aload_n 0, 1), some (.iconst 0, 1), some (.putfield 124, 3), none, none, some (.aload_n 0, 1), some (.iconst 0, 1), some (.putfield 148, 3), none, none], [some (.aload_n 0, 1), some (.bipush (-2), 2), none, some (.putfield 32, 3), none, none, some (.aload_n 0, 1), some (.invokevirtual 152, 3), none, none, some (.aload_n 0, 1), some (.aload_n 0, 1), some (.ldc 190, 2), none, some (.invokevirtual 159, 3), none], [none, some (.invokevirtual 155, 3), none, none, some (.pop, 1), some (.aload_n 0, 1), some (.getfield 13, 3), none, none, some (.iconst 0, 1), some (.aload_n 0, 1), some (.iconst 2, 1), some (.bipush 10, 2), none, some (.invokevirtual 162, 3), none], [none, some (.iastore, 1), some (.aload_n 0, 1), some (.aload_n 0, 1), some (.ldc 191, 2), none, some (.invokevirtual 159, 3), none, none, some (.invokevirtual 155, 3), none, none, some (.pop, 1), some (.aload_n 0, 1), some (.getfield 13, 3), none], [none, some (.iconst 1, 1), some (.aload_n 0, 1), some (.iconst 0, 1), some (.aload_n 0, 1), some (.getfield 13, 3), none, none, some (.iconst 0, 1), some (.iaload, 1), some (.invokevirtual 162, 3), none, none, some (.iastore, 1), some (.aload_n 0, 1), some (.aload_n 0, 1)], [some (.getfield 133, 3), none, none, some (.iconst 3, 1), some (.if_icmp .ne 7, 3), none, none, some (.iconst 1, 1), some (.goto 4, 3), none, none, some (.iconst 0, 1), some (.invokevirtual 155, 3), none, none, some (.pop, 1)], [some (.aload_n 0, 1), some (.getfield 148, 3), none, none, some (.ifCond .ne 19, 3), none, none, some (.aload_n 0, 1), some (.ldc 192, 2), none, some (.invokevirtual 159, 3), none, none, some (.ifCond .eq 10, 3), none, none], [some (.aload_n 0, 1), some (.invokevirtual 193, 3), none, none, some (.goto (-20), 3), none, none, some (.aload_n 0, 1), some (.getfield 148, 3), none, none, some (.ifCond .ne 16, 3), none, none, some (.aload_n 0, 1), some (.getfield 133, 3)], [none, none, some (.ifCond .eq 9, 3), none, none, some (.aload_n 0, 1), some (.iconst 0, 1), some (.invokevirtual 155, 3), none, none, some (.pop, 1), some (.aload_n 0, 1), some (.iconst 0, 1), some (.putfield 121, 3), none, none], [some (.aload_n 0, 1), some (.getfield 148, 3), none, none, some (.ifCond .eq 5, 3), none, none, some (.iconst (-1), 1), some (.ireturn, 1), some (.aload_n 0, 1), some (.getfield 13, 3), none, none, some (.iconst 0, 1), some (.aload_n 0, 1), some (.getfield 7, 3)], [none, none, some (.iconst 0, 1), some (.invokestatic 42, 3), none, none, some (.aload_n 0, 1), some (.iconst 0, 1), some (.putfield 196, 3), none, none, some (.iconst 0, 1), some (.istore_n 1, 1), some (.iload_n 1, 1), some (.iconst 2, 1), some (.if_icmp .ge 16, 3)]]
def jv_c203_1 : List (List jv_I) := [[none, none, some (.aload_n 0, 1), some (.getfield 25, 3), none, none, some (.iload_n 1, 1), some (.iconst 0, 1), some (.bastore, 1), some (.iinc 1 1, 3), none, none, some (.goto (-15), 3), none, none, some (.aload_n 0, 1)], [some (.getfield 7, 3), none, none, some (.iconst 3, 1), some (.iaload, 1), some (.ireturn, 1)]]
def jv_c203 : List (List jv_I) := jv_c203_0 ++ jv_c203_1
/-- X8_tells -/
def jv_c204 : List (List jv_I) := [[some (.aload_n 0, 1), some (.getfield 7, 3), none, none, some (.sipush 209, 3), none, none, some (.iaload, 1), some (.bipush 40, 2), none, some (.if_icmp .ne 55, 3), none, none, some (.iconst 0, 1), some (.istore 4, 2), none], [some (.iload 4, 2), none, some (.bipush 117, 2), none, some (.if_icmp .ge 33, 3), none, none, some (.aload_n 0, 1), some (.getfield 7, 3), none, none, some (.sipush 210, 3), none, none, some (.iload 4, 2), none], [some (.iadd, 1), some (.aload_n 0, 1), some (.getfield 7, 3), none, none, some (.sipush 210, 3), none, none, some (.iload 4, 2), none, some (.iadd, 1), some (.iconst 3, 1), some (.iadd, 1), some (.iaload, 1), some (.iastore, 1), some (.iinc 4 1, 3)], [none, none, some (.goto (-34), 3), none, none, some (.aload_n 0, 1), some (.getfield 7, 3), none, none, some (.sipush 209, 3), none, none, some (.dup2, 1), some (.iaload, 1), some (.iconst 1, 1), some (.isub, 1)], [some (.iastore, 1), some (.sipush 210, 3), none, none, some (.iconst 3, 1), some (.aload_n 0, 1), some (.getfield 7, 3), none, none, some (.sipush 209, 3), none, none, some (.iaload, 1), some (.imul, 1), some (.iadd, 1), some (.istore 4, 2)], [none, some (.aload_n 0, 1), some (.getfield 7, 3), none, none, some (.iload 4, 2), none, some (.iload_n 1, 1), some (.iastore, 1), some (.aload_n 0, 1), some (.getfield 7, 3), none, none, some (.iload 4, 2), none, some (.iconst 1, 1)], [some (.iadd, 1), some (.iload_n 2, 1), some (.iastore, 1), some (.aload_n 0, 1), some (.getfield 7, 3), none, none, some (.iload 4, 2), none, some (.iconst 2, 1), some (.iadd, 1), some (.iload_n 3, 1), some (.iastore, 1), some (.aload_n 0, 1), some (.getfield 7, 3), none], [none, some (.sipush 209, 3), none, none, some (.dup2, 1), some (.iaload, 1), some (.iconst 1, 1), some (.iadd, 1), some (.iastore, 1), some (.return_, 1)]]
/-- X8_keepForUndo -/
def jv_c205 : List (List jv_I) := [[some (.aload_n 0, 1), some (.getfield 196, 3), none, none, some (.bipush 8, 2), none, some (.if_icmp .ne 50, 3), none, none, some (.iconst 1, 1), some (.istore_n 1, 1), some (.iload_n 1, 1), some (.bipush 8, 2), none, some (.if_icmp .ge 32, 3), none], [none, some (.aload_n 0, 1), some (.getfield 19, 3), none, none, some (.sipush 330, 3), none, none, some (.iload_n 1, 1), some (.imul, 1), some (.aload_n 0, 1), some (.getfield 19, 3), none, none, some (.sipush 330, 3), none], [none, some (.iload_n 1, 1), some (.iconst 1, 1), some (.isub, 1), some (.imul, 1), some (.invokestatic 42, 3), none, none, some (.iinc 1 1, 3), none, none, some (.goto (-32), 3), none, none, some (.aload_n 0, 1), some (.dup, 1)], [some (.getfield 196, 3), none, none, some (.iconst 1, 1), some (.isub, 1), some (.putfield 196, 3), none, none, some (.aload_n 0, 1), some (.getfield 7, 3), none, none, some (.iconst 0, 1), some (.aload_n 0, 1), some (.getfield 19, 3), none], [none, some (.sipush 330, 3), none, none, some (.aload_n 0, 1), some (.getfield 196, 3), none, none, some (.imul, 1), some (.invokestatic 42, 3), none, none, some (.aload_n 0, 1), some (.dup, 1), some (.getfield 196, 3), none], [none, some (.iconst 1, 1), some (.iadd, 1), some (.putfield 196, 3), none, none, some (.return_, 1)]]
/-- X8_refused -/
def jv_c206 : List (List jv_I) := [[some (.bipush (-10), 2), none, some (.iload_n 0, 1), some (.isub, 1), some (.ireturn, 1)]]
/-- X8_tapeName -/
def jv_c207 : List (List jv_I) := [[some (.iconst 0, 1), some (.istore_n 1, 1), some (.aload_n 0, 1), some (.getfield 121, 3), none, none, some (.iconst 1, 1), some (.iconst 5, 1), some (.invokestatic 46, 3), none, none, some (.istore_n 2, 1), some (.iconst 0, 1), some (.istore_n 3, 1), some (.iload_n 3, 1), some (.aload_n 0, 1)], [some (.getfield 121, 3), none, none, some (.if_icmp .ge 34, 3), none, none, some (.iload_n 2, 1), some (.ifCond .eq 30, 3), none, none, some (.aload_n 0, 1), some (.iload_n 3, 1), some (.invokevirtual 136, 3), none, none, some (.istore_n 2, 1)], [some (.bipush 27, 2), none, some (.iload_n 1, 1), some (.imul, 1), some (.aload_n 0, 1), some (.getfield 29, 3), none, none, some (.iload_n 3, 1), some (.iaload, 1), some (.iadd, 1), some (.bipush 96, 2), none, some (.isub, 1), some (.istore_n 1, 1), some (.iinc 3 1, 3)], [none, none, some (.goto (-36), 3), none, none, some (.iload_n 2, 1), some (.ifCond .eq 14, 3), none, none, some (.iload_n 1, 1), some (.invokestatic 171, 3), none, none, some (.ifCond .eq 7, 3), none, none], [some (.iload_n 1, 1), some (.goto 4, 3), none, none, some (.iconst (-1), 1), some (.ireturn, 1)]]
/-- X8_come -/
def jv_c208_0 : List (List jv_I) := [[some (.aload_n 0, 1), some (.invokevirtual 199, 3), none, none, some (.istore 6, 2), none, some (.aload_n 0, 1), some (.iload_n 1, 1), some (.invokevirtual 202, 3), none, none, some (.ifCond .eq 49, 3), none, none, some (.iload_n 2, 1), some (.iconst 0, 1)], [some (.iconst 1, 1), some (.invokestatic 46, 3), none, none, some (.ifCond .eq 40, 3), none, none, some (.iload_n 3, 1), some (.iconst 0, 1), some (.bipush 9, 2), none, some (.invokestatic 46, 3), none, none, some (.ifCond .eq 30, 3), none], [none, some (.iload 4, 2), none, some (.iconst 0, 1), some (.bipush 99, 2), none, some (.invokestatic 46, 3), none, none, some (.ifCond .eq 19, 3), none, none, some (.iload 5, 2), none, some (.iconst 1, 1), some (.bipush 99, 2)], [none, some (.invokestatic 46, 3), none, none, some (.ifCond .eq 8, 3), none, none, some (.iload 6, 2), none, some (.ifCond .ge 5, 3), none, none, some (.iconst (-1), 1), some (.ireturn, 1), some (.aload_n 0, 1), some (.getfield 7, 3)], [none, none, some (.iconst 3, 1), some (.iaload, 1), some (.bipush 20, 2), none, some (.if_icmp .ne 6, 3), none, none, some (.bipush (-3), 2), none, some (.ireturn, 1), some (.aload_n 0, 1), some (.getfield 7, 3), none, none], [some (.iload_n 1, 1), some (.invokestatic 97, 3), none, none, some (.ifCond .ge 17, 3), none, none, some (.iload_n 2, 1), some (.iload_n 1, 1), some (.aload_n 0, 1), some (.getfield 7, 3), none, none, some (.iconst 1, 1), some (.iaload, 1), some (.invokestatic 62, 3)], [none, none, some (.ifCond .ne 6, 3), none, none, some (.bipush (-4), 2), none, some (.ireturn, 1), some (.aload_n 0, 1), some (.invokevirtual 205, 3), none, none, some (.aload_n 0, 1), some (.iconst 0, 1), some (.putfield 121, 3), none], [none, some (.aload_n 0, 1), some (.getfield 7, 3), none, none, some (.iconst 3, 1), some (.iaload, 1), some (.istore 7, 2), none, some (.aload_n 0, 1), some (.getfield 7, 3), none, none, some (.iload_n 1, 1), some (.iload 6, 2), none], [some (.invokestatic 174, 3), none, none, some (.aload_n 0, 1), some (.getfield 7, 3), none, none, some (.iload 7, 2), none, some (.iconst 1, 1), some (.invokestatic 54, 3), none, none, some (.iload_n 2, 1), some (.iastore, 1), some (.aload_n 0, 1)], [some (.getfield 7, 3), none, none, some (.iload 7, 2), none, some (.iconst 2, 1), some (.invokestatic 54, 3), none, none, some (.iload_n 3, 1), some (.iastore, 1), some (.aload_n 0, 1), some (.getfield 7, 3), none, none, some (.iload 7, 2)], [none, some (.bipush 7, 2), none, some (.invokestatic 54, 3), none, none, some (.iload 4, 2), none, some (.iastore, 1), some (.aload_n 0, 1), some (.getfield 7, 3), none, none, some (.iload 7, 2), none, some (.bipush 8, 2)], [none, some (.invokestatic 54, 3), none, none, some (.iload 5, 2), none, some (.iastore, 1), some (.aload_n 0, 1), some (.getfield 7, 3), none, none, some (.iconst 3, 1), some (.dup2, 1), some (.iaload, 1), some (.iconst 1, 1), some (.iadd, 1)]]
def jv_c208_1 : List (List jv_I) := [[some (.iastore, 1), some (.aload_n 0, 1), some (.iconst 0, 1), some (.iload 7, 2), none, some (.iload_n 1, 1), some (.invokevirtual 208, 3), none, none, some (.iload 7, 2), none, some (.ireturn, 1)]]
def jv_c208 : List (List jv_I) := jv_c208_0 ++ jv_c208_1
/-- X8_fieldOf -/
def jv_c209 : List (List jv_I) := [[some (.iload_n 0, 1), some (.iconst 4, 1), some (.if_icmp .ne 7, 3), none, none, some (.iconst 1, 1), some (.goto 6, 3), none, none, some (.iconst 3, 1), some (.iload_n 0, 1), some (.iadd, 1), some (.ireturn, 1)]]
/-- X8_isNumber -/
def jv_c210 : List (List jv_I) := [[some (.iload_n 1, 1), some (.tableswitch 72 0 4 #[35, 35, 44, 58, 65], 35), none, none, none, none, none, none, none, none, none, none, none, none, none, none], [none, none, none, none, none, none, none, none, none, none, none, none, none, none, none, none], [none, none, none, none, some (.iload_n 2, 1), some (.bipush (-9), 2), none, some (.bipush 9, 2), none, some (.invokestatic 46, 3), none, none, some (.ireturn, 1), some (.iload_n 2, 1), some (.iconst 0, 1), some (.aload_n 0, 1)], [some (.getfield 7, 3), none, none, some (.iconst 0, 1), some (.iaload, 1), some (.iconst 1, 1), some (.isub, 1), some (.invokestatic 46, 3), none, none, some (.ireturn, 1), some (.iload_n 2, 1), some (.iconst 0, 1), some (.iconst 3, 1), some (.invokestatic 46, 3), none], [none, some (.ireturn, 1), some (.iload_n 2, 1), some (.iconst 0, 1), some (.iconst 1, 1), some (.invokestatic 46, 3), none, none, some (.ireturn, 1), some (.iconst 0, 1), some (.ireturn, 1)]]
/-- X8_set -/
def jv_c211 : List (List jv_I) := [[some (.aload_n 0, 1), some (.iload_n 1, 1), some (.invokevirtual 50, 3), none, none, some (.ifCond .eq 12, 3), none, none, some (.aload_n 0, 1), some (.iload_n 2, 1), some (.iload_n 3, 1), some (.invokevirtual 212, 3), none, none, some (.ifCond .ne 5, 3), none], [none, some (.iconst (-1), 1), some (.ireturn, 1), some (.aload_n 0, 1), some (.getfield 7, 3), none, none, some (.iload_n 1, 1), some (.iload_n 2, 1), some (.invokestatic 216, 3), none, none, some (.invokestatic 54, 3), none, none, some (.iaload, 1)], [some (.istore 4, 2), none, some (.iload 4, 2), none, some (.iload_n 3, 1), some (.if_icmp .ne 6, 3), none, none, some (.bipush (-2), 2), none, some (.ireturn, 1), some (.iload_n 2, 1), some (.iconst 4, 1), some (.if_icmp .ne 29, 3), none, none], [some (.iload_n 3, 1), some (.aload_n 0, 1), some (.getfield 7, 3), none, none, some (.iload_n 1, 1), some (.iconst 0, 1), some (.invokestatic 54, 3), none, none, some (.iaload, 1), some (.aload_n 0, 1), some (.getfield 7, 3), none, none, some (.iconst 1, 1)], [some (.iaload, 1), some (.invokestatic 62, 3), none, none, some (.ifCond .ne 6, 3), none, none, some (.bipush (-4), 2), none, some (.ireturn, 1), some (.aload_n 0, 1), some (.invokevirtual 205, 3), none, none, some (.aload_n 0, 1), some (.getfield 7, 3)], [none, none, some (.iload_n 1, 1), some (.iload_n 2, 1), some (.invokestatic 216, 3), none, none, some (.invokestatic 54, 3), none, none, some (.iload_n 3, 1), some (.iastore, 1), some (.aload_n 0, 1), some (.bipush 6, 2), none, some (.bipush 10, 2)], [none, some (.iload_n 1, 1), some (.imul, 1), some (.iload_n 2, 1), some (.iadd, 1), some (.iload 4, 2), none, some (.invokevirtual 208, 3), none, none, some (.iload_n 2, 1), some (.iconst 2, 1), some (.if_icmp .ge 11, 3), none, none, some (.iload 4, 2)], [none, some (.bipush 9, 2), none, some (.iadd, 1), some (.goto 5, 3), none, none, some (.iload 4, 2), none, some (.ireturn, 1)]]
/-- X8_barredBy -/
def jv_c212 : List (List jv_I) := [[some (.iconst 0, 1), some (.istore_n 2, 1), some (.iconst 0, 1), some (.istore_n 3, 1), some (.iload_n 3, 1), some (.aload_n 0, 1), some (.iconst 3, 1), some (.iaload, 1), some (.if_icmp .ge 33, 3), none, none, some (.aload_n 0, 1), some (.iload_n 3, 1), some (.iconst 1, 1), some (.invokestatic 54, 3), none], [none, some (.iaload, 1), some (.aload_n 0, 1), some (.iload_n 3, 1), some (.iconst 0, 1), some (.invokestatic 54, 3), none, none, some (.iaload, 1), some (.iload_n 1, 1), some (.invokestatic 62, 3), none, none, some (.ifCond .ne 6, 3), none, none], [some (.iinc 2 1, 3), none, none, some (.iinc 3 1, 3), none, none, some (.goto (-34), 3), none, none, some (.iload_n 2, 1), some (.ireturn, 1)]]
/-- X8_first -/
def jv_c213 : List (List jv_I) := [[some (.iload_n 1, 1), some (.iconst 0, 1), some (.aload_n 0, 1), some (.getfield 7, 3), none, none, some (.iconst 0, 1), some (.iaload, 1), some (.invokestatic 46, 3), none, none, some (.ifCond .ne 5, 3), none, none, some (.iconst (-1), 1), some (.ireturn, 1)], [some (.aload_n 0, 1), some (.getfield 7, 3), none, none, some (.iconst 1, 1), some (.iaload, 1), some (.istore_n 2, 1), some (.iload_n 2, 1), some (.iload_n 1, 1), some (.if_icmp .ne 6, 3), none, none, some (.bipush (-2), 2), none, some (.ireturn, 1), some (.aload_n 0, 1)], [some (.getfield 7, 3), none, none, some (.iload_n 1, 1), some (.invokestatic 219, 3), none, none, some (.ifCond .le 6, 3), none, none, some (.bipush (-4), 2), none, some (.ireturn, 1), some (.aload_n 0, 1), some (.invokevirtual 205, 3), none], [none, some (.aload_n 0, 1), some (.getfield 7, 3), none, none, some (.iconst 1, 1), some (.iload_n 1, 1), some (.iastore, 1), some (.aload_n 0, 1), some (.bipush 7, 2), none, some (.iconst 0, 1), some (.iload_n 2, 1), some (.invokevirtual 208, 3), none, none], [some (.iload_n 2, 1), some (.ireturn, 1)]]
/-- X8_swap -/
def jv_c214 : List (List jv_I) := [[some (.aload_n 0, 1), some (.iload_n 1, 1), some (.iload_n 2, 1), some (.invokevirtual 222, 3), none, none, some (.ifCond .eq 10, 3), none, none, some (.iload_n 3, 1), some (.invokestatic 225, 3), none, none, some (.ifCond .ne 5, 3), none, none], [some (.iconst (-1), 1), some (.ireturn, 1), some (.aload_n 0, 1), some (.getfield 7, 3), none, none, some (.iload_n 1, 1), some (.iload_n 2, 1), some (.iload_n 3, 1), some (.invokestatic 112, 3), none, none, some (.istore 4, 2), none, some (.iload 4, 2), none], [some (.ifCond .le 9, 3), none, none, some (.iload 4, 2), none, some (.invokestatic 228, 3), none, none, some (.ireturn, 1), some (.aload_n 0, 1), some (.invokevirtual 205, 3), none, none, some (.aload_n 0, 1), some (.getfield 7, 3), none], [none, some (.iload_n 1, 1), some (.iload_n 2, 1), some (.iload_n 1, 1), some (.invokestatic 93, 3), none, none, some (.aload_n 0, 1), some (.getfield 7, 3), none, none, some (.iload_n 1, 1), some (.iload_n 2, 1), some (.iload_n 2, 1), some (.invokestatic 93, 3), none], [none, some (.iadd, 1), some (.istore 5, 2), none, some (.aload_n 0, 1), some (.getfield 7, 3), none, none, some (.iload_n 1, 1), some (.iload_n 2, 1), some (.invokestatic 85, 3), none, none, some (.aload_n 0, 1), some (.getfield 7, 3), none], [none, some (.iload_n 1, 1), some (.bipush 7, 2), none, some (.invokestatic 54, 3), none, none, some (.dup2, 1), some (.iaload, 1), some (.iload_n 3, 1), some (.isub, 1), some (.iastore, 1), some (.aload_n 0, 1), some (.getfield 7, 3), none, none], [some (.iload_n 2, 1), some (.bipush 7, 2), none, some (.invokestatic 54, 3), none, none, some (.dup2, 1), some (.iaload, 1), some (.iload_n 3, 1), some (.iadd, 1), some (.iastore, 1), some (.aload_n 0, 1), some (.getfield 7, 3), none, none, some (.bipush 7, 2)], [none, some (.dup2, 1), some (.iaload, 1), some (.iload_n 3, 1), some (.iadd, 1), some (.iastore, 1), some (.aload_n 0, 1), some (.getfield 7, 3), none, none, some (.iconst 4, 1), some (.dup2, 1), some (.iaload, 1), some (.iconst 1, 1), some (.iadd, 1), some (.iastore, 1)], [some (.aload_n 0, 1), some (.iconst 1, 1), some (.bipush 100, 2), none, some (.iload_n 1, 1), some (.imul, 1), some (.iload_n 2, 1), some (.iadd, 1), some (.iload_n 3, 1), some (.invokevirtual 208, 3), none, none, some (.iload 5, 2), none, some (.bipush 100, 2), none], [some (.iadd, 1), some (.ireturn, 1)]]
/-- X8_move -/
def jv_c215 : List (List jv_I) := [[some (.aload_n 0, 1), some (.iload_n 1, 1), some (.invokevirtual 50, 3), none, none, some (.ifCond .eq 11, 3), none, none, some (.aload_n 0, 1), some (.iload_n 2, 1), some (.invokevirtual 202, 3), none, none, some (.ifCond .ne 5, 3), none, none], [some (.iconst (-1), 1), some (.ireturn, 1), some (.aload_n 0, 1), some (.getfield 7, 3), none, none, some (.iload_n 1, 1), some (.iload_n 2, 1), some (.invokestatic 231, 3), none, none, some (.istore_n 3, 1), some (.iload_n 3, 1), some (.ifCond .le 8, 3), none, none], [some (.iload_n 3, 1), some (.invokestatic 228, 3), none, none, some (.ireturn, 1), some (.aload_n 0, 1), some (.invokevirtual 205, 3), none, none, some (.aload_n 0, 1), some (.getfield 7, 3), none, none, some (.iload_n 1, 1), some (.iconst 0, 1), some (.invokestatic 54, 3)], [none, none, some (.iaload, 1), some (.istore 4, 2), none, some (.aload_n 0, 1), some (.getfield 7, 3), none, none, some (.iload_n 1, 1), some (.iload_n 2, 1), some (.invokestatic 78, 3), none, none, some (.aload_n 0, 1), some (.getfield 7, 3)], [none, none, some (.iload_n 1, 1), some (.invokestatic 81, 3), none, none, some (.isub, 1), some (.istore 5, 2), none, some (.aload_n 0, 1), some (.getfield 7, 3), none, none, some (.iload_n 1, 1), some (.iconst 0, 1), some (.invokestatic 54, 3)], [none, none, some (.iload_n 2, 1), some (.iastore, 1), some (.aload_n 0, 1), some (.getfield 7, 3), none, none, some (.iconst 5, 1), some (.dup2, 1), some (.iaload, 1), some (.iconst 1, 1), some (.iadd, 1), some (.iastore, 1), some (.aload_n 0, 1), some (.iconst 2, 1)], [some (.iload_n 1, 1), some (.iload 4, 2), none, some (.invokevirtual 208, 3), none, none, some (.iload 5, 2), none, some (.ireturn, 1)]]
/-- X8_ring -/
def jv_c216 : List (List jv_I) := [[some (.aload_n 0, 1), some (.iload_n 1, 1), some (.iload_n 2, 1), some (.invokevirtual 222, 3), none, none, some (.ifCond .eq 17, 3), none, none, some (.aload_n 0, 1), some (.iload_n 2, 1), some (.iload_n 3, 1), some (.invokevirtual 222, 3), none, none, some (.ifCond .eq 8, 3)], [none, none, some (.iload_n 1, 1), some (.iload_n 3, 1), some (.if_icmp .ne 5, 3), none, none, some (.iconst (-1), 1), some (.ireturn, 1), some (.aload_n 0, 1), some (.getfield 7, 3), none, none, some (.iload_n 1, 1), some (.iload_n 2, 1), some (.iload_n 3, 1)], [some (.invokestatic 234, 3), none, none, some (.istore 4, 2), none, some (.iload 4, 2), none, some (.ifCond .le 9, 3), none, none, some (.iload 4, 2), none, some (.invokestatic 228, 3), none, none, some (.ireturn, 1)], [some (.aload_n 0, 1), some (.invokevirtual 205, 3), none, none, some (.aload_n 0, 1), some (.getfield 7, 3), none, none, some (.iload_n 1, 1), some (.iload_n 2, 1), some (.iload_n 3, 1), some (.invokestatic 237, 3), none, none, some (.istore 5, 2), none], [some (.aload_n 0, 1), some (.getfield 7, 3), none, none, some (.iload_n 1, 1), some (.iload_n 2, 1), some (.iload_n 3, 1), some (.invokestatic 100, 3), none, none, some (.aload_n 0, 1), some (.getfield 7, 3), none, none, some (.bipush 6, 2), none], [some (.dup2, 1), some (.iaload, 1), some (.iconst 1, 1), some (.iadd, 1), some (.iastore, 1), some (.aload_n 0, 1), some (.iconst 3, 1), some (.sipush 10000, 3), none, none, some (.iload_n 1, 1), some (.imul, 1), some (.bipush 100, 2), none, some (.iload_n 2, 1), some (.imul, 1)], [some (.iadd, 1), some (.iload_n 3, 1), some (.iadd, 1), some (.iconst 0, 1), some (.invokevirtual 208, 3), none, none, some (.iload 5, 2), none, some (.ireturn, 1)]]
/-- X8_settle -/
def jv_c217 : List (List jv_I) := [[some (.aload_n 0, 1), some (.invokevirtual 240, 3), none, none, some (.aload_n 0, 1), some (.getfield 16, 3), none, none, some (.invokestatic 108, 3), none, none, some (.istore_n 1, 1), some (.aload_n 0, 1), some (.getfield 16, 3), none, none], [some (.invokestatic 243, 3), none, none, some (.istore_n 2, 1), some (.iload_n 2, 1), some (.ifCond .ne 6, 3), none, none, some (.bipush (-2), 2), none, some (.ireturn, 1), some (.aload_n 0, 1), some (.invokevirtual 205, 3), none, none, some (.aload_n 0, 1)], [some (.getfield 16, 3), none, none, some (.iconst 0, 1), some (.aload_n 0, 1), some (.getfield 7, 3), none, none, some (.iconst 0, 1), some (.invokestatic 42, 3), none, none, some (.aload_n 0, 1), some (.getfield 7, 3), none, none], [some (.iconst 4, 1), some (.dup2, 1), some (.iaload, 1), some (.iload_n 2, 1), some (.iadd, 1), some (.iastore, 1), some (.aload_n 0, 1), some (.iconst 5, 1), some (.iload_n 2, 1), some (.aload_n 0, 1), some (.getfield 7, 3), none, none, some (.invokestatic 108, 3), none, none], [some (.iload_n 1, 1), some (.isub, 1), some (.invokevirtual 208, 3), none, none, some (.iload_n 2, 1), some (.ireturn, 1)]]
/-- X8_getsOff -/
def jv_c218 : List (List jv_I) := [[some (.aload_n 0, 1), some (.iconst 4, 1), some (.iload_n 1, 1), some (.aload_n 0, 1), some (.getfield 7, 3), none, none, some (.iload_n 1, 1), some (.iconst 0, 1), some (.invokestatic 54, 3), none, none, some (.iaload, 1), some (.invokevirtual 208, 3), none, none], [some (.aload_n 0, 1), some (.getfield 7, 3), none, none, some (.iconst 3, 1), some (.dup2, 1), some (.iaload, 1), some (.iconst 1, 1), some (.isub, 1), some (.iastore, 1), some (.iload_n 1, 1), some (.iconst 0, 1), some (.invokestatic 54, 3), none, none, some (.istore_n 2, 1)], [some (.iload_n 2, 1), some (.aload_n 0, 1), some (.getfield 7, 3), none, none, some (.iconst 3, 1), some (.iaload, 1), some (.iconst 0, 1), some (.invokestatic 54, 3), none, none, some (.if_icmp .ge 24, 3), none, none, some (.aload_n 0, 1), some (.getfield 7, 3)], [none, none, some (.iload_n 2, 1), some (.aload_n 0, 1), some (.getfield 7, 3), none, none, some (.iload_n 2, 1), some (.bipush 10, 2), none, some (.iadd, 1), some (.iaload, 1), some (.iastore, 1), some (.iinc 2 1, 3), none, none], [some (.goto (-32), 3), none, none, some (.aload_n 0, 1), some (.getfield 7, 3), none, none, some (.bipush 8, 2), none, some (.dup2, 1), some (.iaload, 1), some (.iconst 1, 1), some (.iadd, 1), some (.iastore, 1), some (.return_, 1)]]
/-- X8_stops -/
def jv_c219 : List (List jv_I) := [[some (.aload_n 0, 1), some (.getfield 7, 3), none, none, some (.iconst 2, 1), some (.dup2, 1), some (.iaload, 1), some (.iconst 1, 1), some (.iadd, 1), some (.iastore, 1), some (.aload_n 0, 1), some (.getfield 7, 3), none, none, some (.iconst 3, 1), some (.iaload, 1)], [some (.iconst 1, 1), some (.isub, 1), some (.istore_n 1, 1), some (.iload_n 1, 1), some (.ifCond .lt 34, 3), none, none, some (.aload_n 0, 1), some (.getfield 7, 3), none, none, some (.iload_n 1, 1), some (.bipush 8, 2), none, some (.invokestatic 54, 3), none], [none, some (.iaload, 1), some (.aload_n 0, 1), some (.getfield 7, 3), none, none, some (.iconst 2, 1), some (.iaload, 1), some (.if_icmp .ne 8, 3), none, none, some (.aload_n 0, 1), some (.iload_n 1, 1), some (.invokevirtual 246, 3), none, none], [some (.iinc 1 (-1), 3), none, none, some (.goto (-32), 3), none, none, some (.return_, 1)]]
/-- X8_station -/
def jv_c220 : List (List jv_I) := [[some (.iload_n 1, 1), some (.iconst 1, 1), some (.bipush 50, 2), none, some (.invokestatic 46, 3), none, none, some (.ifCond .ne 5, 3), none, none, some (.iconst (-1), 1), some (.ireturn, 1), some (.aload_n 0, 1), some (.getfield 7, 3), none, none], [some (.iconst 2, 1), some (.iaload, 1), some (.iload_n 1, 1), some (.iadd, 1), some (.sipush 999, 3), none, none, some (.if_icmp .le 6, 3), none, none, some (.bipush (-3), 2), none, some (.ireturn, 1), some (.aload_n 0, 1), some (.invokevirtual 205, 3), none], [none, some (.aload_n 0, 1), some (.getfield 7, 3), none, none, some (.bipush 8, 2), none, some (.iaload, 1), some (.istore_n 2, 1), some (.iconst 0, 1), some (.istore_n 3, 1), some (.iload_n 3, 1), some (.iload_n 1, 1), some (.if_icmp .ge 13, 3), none, none], [some (.aload_n 0, 1), some (.invokevirtual 250, 3), none, none, some (.iinc 3 1, 3), none, none, some (.goto (-12), 3), none, none, some (.aload_n 0, 1), some (.getfield 7, 3), none, none, some (.bipush 8, 2), none], [some (.iaload, 1), some (.iload_n 2, 1), some (.isub, 1), some (.ireturn, 1)]]
/-- X8_keep -/
def jv_c221 : List (List jv_I) := [[some (.iload_n 1, 1), some (.iconst 0, 1), some (.iconst 1, 1), some (.invokestatic 46, 3), none, none, some (.ifCond .ne 5, 3), none, none, some (.iconst (-1), 1), some (.ireturn, 1), some (.aload_n 0, 1), some (.getfield 7, 3), none, none, some (.iconst 0, 1)], [some (.aload_n 0, 1), some (.getfield 22, 3), none, none, some (.sipush 330, 3), none, none, some (.iload_n 1, 1), some (.imul, 1), some (.invokestatic 42, 3), none, none, some (.aload_n 0, 1), some (.getfield 25, 3), none, none], [some (.iload_n 1, 1), some (.iconst 1, 1), some (.bastore, 1), some (.aload_n 0, 1), some (.getfield 7, 3), none, none, some (.iconst 3, 1), some (.iaload, 1), some (.ireturn, 1)]]
/-- X8_restore -/
def jv_c222 : List (List jv_I) := [[some (.iload_n 1, 1), some (.iconst 0, 1), some (.iconst 1, 1), some (.invokestatic 46, 3), none, none, some (.ifCond .ne 5, 3), none, none, some (.iconst (-1), 1), some (.ireturn, 1), some (.aload_n 0, 1), some (.getfield 25, 3), none, none, some (.iload_n 1, 1)], [some (.baload, 1), some (.ifCond .ne 6, 3), none, none, some (.bipush (-2), 2), none, some (.ireturn, 1), some (.aload_n 0, 1), some (.invokevirtual 205, 3), none, none, some (.aload_n 0, 1), some (.getfield 22, 3), none, none, some (.sipush 330, 3)], [none, none, some (.iload_n 1, 1), some (.imul, 1), some (.aload_n 0, 1), some (.getfield 7, 3), none, none, some (.iconst 0, 1), some (.invokestatic 42, 3), none, none, some (.aload_n 0, 1), some (.getfield 7, 3), none, none], [some (.iconst 3, 1), some (.iaload, 1), some (.ireturn, 1)]]
/-- X8_undo -/
def jv_c223 : List (List jv_I) := [[some (.aload_n 0, 1), some (.getfield 196, 3), none, none, some (.ifCond .ne 5, 3), none, none, some (.iconst (-1), 1), some (.ireturn, 1), some (.aload_n 0, 1), some (.dup, 1), some (.getfield 196, 3), none, none, some (.iconst 1, 1), some (.isub, 1)], [some (.putfield 196, 3), none, none, some (.aload_n 0, 1), some (.getfield 19, 3), none, none, some (.sipush 330, 3), none, none, some (.aload_n 0, 1), some (.getfield 196, 3), none, none, some (.imul, 1), some (.aload_n 0, 1)], [some (.getfield 7, 3), none, none, some (.iconst 0, 1), some (.invokestatic 42, 3), none, none, some (.aload_n 0, 1), some (.getfield 196, 3), none, none, some (.ireturn, 1)]]
/-- X8_sweetsAll -/
def jv_c224 : List (List jv_I) := [[some (.iconst 0, 1), some (.istore_n 1, 1), some (.iconst 0, 1), some (.istore_n 2, 1), some (.iload_n 2, 1), some (.aload_n 0, 1), some (.getfield 7, 3), none, none, some (.iconst 3, 1), some (.iaload, 1), some (.if_icmp .ge 23, 3), none, none, some (.iload_n 1, 1), some (.aload_n 0, 1)], [some (.getfield 7, 3), none, none, some (.iload_n 2, 1), some (.bipush 7, 2), none, some (.invokestatic 54, 3), none, none, some (.iaload, 1), some (.iadd, 1), some (.istore_n 1, 1), some (.iinc 2 1, 3), none, none, some (.goto (-27), 3)], [none, none, some (.iload_n 1, 1), some (.ireturn, 1)]]
/-- X8_membersOf -/
def jv_c225 : List (List jv_I) := [[some (.iconst 0, 1), some (.istore_n 2, 1), some (.iconst 0, 1), some (.istore_n 3, 1), some (.iload_n 3, 1), some (.aload_n 0, 1), some (.getfield 7, 3), none, none, some (.iconst 3, 1), some (.iaload, 1), some (.if_icmp .ge 26, 3), none, none, some (.aload_n 0, 1), some (.getfield 7, 3)], [none, none, some (.iload_n 3, 1), some (.iconst 2, 1), some (.invokestatic 54, 3), none, none, some (.iaload, 1), some (.iload_n 1, 1), some (.if_icmp .ne 6, 3), none, none, some (.iinc 2 1, 3), none, none, some (.iinc 3 1, 3)], [none, none, some (.goto (-30), 3), none, none, some (.iload_n 2, 1), some (.ireturn, 1)]]
/-- X8_familiesAll -/
def jv_c226 : List (List jv_I) := [[some (.iconst 0, 1), some (.istore_n 1, 1), some (.iconst 1, 1), some (.istore_n 2, 1), some (.iload_n 2, 1), some (.bipush 9, 2), none, some (.if_icmp .gt 20, 3), none, none, some (.aload_n 0, 1), some (.iload_n 2, 1), some (.invokevirtual 253, 3), none, none, some (.ifCond .le 6, 3)], [none, none, some (.iinc 1 1, 3), none, none, some (.iinc 2 1, 3), none, none, some (.goto (-20), 3), none, none, some (.iload_n 1, 1), some (.ireturn, 1)]]
/-- X8_value -/
def jv_c227 : List (List jv_I) := [[some (.iload_n 1, 1), some (.tableswitch 170 0 16 #[83, 83, 83, 83, 90, 106, 118, 126, 131, 131, 131, 131, 131, 143, 151, 156, 165], 83), none, none, none, none, none, none, none, none, none, none, none, none, none, none], [none, none, none, none, none, none, none, none, none, none, none, none, none, none, none, none], [none, none, none, none, none, none, none, none, none, none, none, none, none, none, none, none], [none, none, none, none, none, none, none, none, none, none, none, none, none, none, none, none], [none, none, none, none, none, none, none, none, none, none, none, none, none, none, none, none], [none, none, none, none, some (.aload_n 0, 1), some (.getfield 7, 3), none, none, some (.iload_n 1, 1), some (.iaload, 1), some (.ireturn, 1), some (.iconst 4, 1), some (.aload_n 0, 1), some (.getfield 7, 3), none, none], [some (.iconst 0, 1), some (.iaload, 1), some (.imul, 1), some (.aload_n 0, 1), some (.getfield 7, 3), none, none, some (.iconst 3, 1), some (.iaload, 1), some (.isub, 1), some (.ireturn, 1), some (.aload_n 0, 1), some (.getfield 7, 3), none, none, some (.invokestatic 108, 3)], [none, none, some (.sipush 10000, 3), none, none, some (.iadd, 1), some (.ireturn, 1), some (.aload_n 0, 1), some (.getfield 7, 3), none, none, some (.invokestatic 256, 3), none, none, some (.ireturn, 1), some (.aload_n 0, 1)], [some (.invokevirtual 259, 3), none, none, some (.ireturn, 1), some (.aload_n 0, 1), some (.getfield 7, 3), none, none, some (.iconst 4, 1), some (.iload_n 1, 1), some (.iadd, 1), some (.bipush 8, 2), none, some (.isub, 1), some (.iaload, 1), some (.ireturn, 1)], [some (.aload_n 0, 1), some (.getfield 7, 3), none, none, some (.invokestatic 262, 3), none, none, some (.ireturn, 1), some (.aload_n 0, 1), some (.invokevirtual 265, 3), none, none, some (.ireturn, 1), some (.aload_n 0, 1), some (.getfield 7, 3), none], [none, some (.sipush 209, 3), none, none, some (.iaload, 1), some (.ireturn, 1), some (.aload_n 0, 1), some (.getfield 196, 3), none, none, some (.ireturn, 1), some (.iconst (-1), 1), some (.ireturn, 1)]]
/-- X8_rankOf -/
def jv_c228 : List (List jv_I) := [[some (.iconst 0, 1), some (.istore_n 2, 1), some (.aload_n 0, 1), some (.getfield 7, 3), none, none, some (.iload_n 1, 1), some (.invokestatic 81, 3), none, none, some (.istore_n 3, 1), some (.iconst 0, 1), some (.istore 4, 2), none, some (.iload 4, 2), none], [some (.aload_n 0, 1), some (.getfield 7, 3), none, none, some (.iconst 3, 1), some (.iaload, 1), some (.if_icmp .ge 41, 3), none, none, some (.aload_n 0, 1), some (.getfield 7, 3), none, none, some (.iload 4, 2), none, some (.invokestatic 81, 3)], [none, none, some (.istore 5, 2), none, some (.iload 5, 2), none, some (.iload_n 3, 1), some (.if_icmp .gt 15, 3), none, none, some (.iload 5, 2), none, some (.iload_n 3, 1), some (.if_icmp .ne 12, 3), none, none], [some (.iload 4, 2), none, some (.iload_n 1, 1), some (.if_icmp .ge 6, 3), none, none, some (.iinc 2 1, 3), none, none, some (.iinc 4 1, 3), none, none, some (.goto (-46), 3), none, none, some (.iload_n 2, 1)], [some (.ireturn, 1)]]
/-- X8_of -/
def jv_c229_0 : List (List jv_I) := [[some (.aload_n 0, 1), some (.iload_n 1, 1), some (.invokevirtual 50, 3), none, none, some (.ifCond .ne 5, 3), none, none, some (.iconst (-1), 1), some (.ireturn, 1), some (.aload_n 0, 1), some (.getfield 7, 3), none, none, some (.iload_n 1, 1), some (.iconst 0, 1)], [some (.invokestatic 54, 3), none, none, some (.iaload, 1), some (.istore_n 3, 1), some (.iload_n 2, 1), some (.tableswitch 192 0 11 #[62, 64, 75, 86, 100, 114, 125, 137, 149, 161, 173, 186], 62), none, none, none, none, none, none, none, none, none], [none, none, none, none, none, none, none, none, none, none, none, none, none, none, none, none], [none, none, none, none, none, none, none, none, none, none, none, none, none, none, none, none], [none, none, none, none, none, none, none, none, none, none, none, none, none, none, none, none], [none, none, none, none, some (.iload_n 3, 1), some (.ireturn, 1), some (.aload_n 0, 1), some (.getfield 7, 3), none, none, some (.iload_n 1, 1), some (.iconst 1, 1), some (.invokestatic 54, 3), none, none, some (.iaload, 1)], [some (.ireturn, 1), some (.aload_n 0, 1), some (.getfield 7, 3), none, none, some (.iload_n 1, 1), some (.iconst 2, 1), some (.invokestatic 54, 3), none, none, some (.iaload, 1), some (.ireturn, 1), some (.aload_n 0, 1), some (.getfield 7, 3), none, none], [some (.iload_n 1, 1), some (.iconst 3, 1), some (.invokestatic 54, 3), none, none, some (.iaload, 1), some (.bipush 9, 2), none, some (.iadd, 1), some (.ireturn, 1), some (.aload_n 0, 1), some (.getfield 7, 3), none, none, some (.iload_n 1, 1), some (.iconst 4, 1)], [some (.invokestatic 54, 3), none, none, some (.iaload, 1), some (.bipush 9, 2), none, some (.iadd, 1), some (.ireturn, 1), some (.aload_n 0, 1), some (.getfield 7, 3), none, none, some (.iload_n 1, 1), some (.iconst 5, 1), some (.invokestatic 54, 3), none], [none, some (.iaload, 1), some (.ireturn, 1), some (.aload_n 0, 1), some (.getfield 7, 3), none, none, some (.iload_n 1, 1), some (.bipush 6, 2), none, some (.invokestatic 54, 3), none, none, some (.iaload, 1), some (.ireturn, 1), some (.aload_n 0, 1)], [some (.getfield 7, 3), none, none, some (.iload_n 1, 1), some (.bipush 7, 2), none, some (.invokestatic 54, 3), none, none, some (.iaload, 1), some (.ireturn, 1), some (.aload_n 0, 1), some (.getfield 7, 3), none, none, some (.iload_n 1, 1)], [some (.bipush 8, 2), none, some (.invokestatic 54, 3), none, none, some (.iaload, 1), some (.ireturn, 1), some (.aload_n 0, 1), some (.getfield 7, 3), none, none, some (.iload_n 1, 1), some (.invokestatic 81, 3), none, none, some (.bipush 100, 2)]]
def jv_c229_1 : List (List jv_I) := [[none, some (.iadd, 1), some (.ireturn, 1), some (.aload_n 0, 1), some (.getfield 7, 3), none, none, some (.iload_n 1, 1), some (.iload_n 3, 1), some (.invokestatic 65, 3), none, none, some (.invokestatic 68, 3), none, none, some (.ireturn, 1)], [some (.aload_n 0, 1), some (.iload_n 1, 1), some (.invokevirtual 268, 3), none, none, some (.ireturn, 1), some (.iconst (-1), 1), some (.ireturn, 1)]]
def jv_c229 : List (List jv_I) := jv_c229_0 ++ jv_c229_1
/-- X8_letter -/
def jv_c230 : List (List jv_I) := [[some (.aload_n 0, 1), some (.iload_n 1, 1), some (.invokevirtual 50, 3), none, none, some (.ifCond .eq 7, 3), none, none, some (.iload_n 2, 1), some (.ifCond .ge 5, 3), none, none, some (.iconst (-1), 1), some (.ireturn, 1), some (.aload_n 0, 1), some (.getfield 7, 3)], [none, none, some (.iload_n 1, 1), some (.bipush 9, 2), none, some (.invokestatic 54, 3), none, none, some (.iaload, 1), some (.istore_n 3, 1), some (.iload_n 2, 1), some (.iload_n 3, 1), some (.invokestatic 165, 3), none, none, some (.if_icmp .ge 11, 3)], [none, none, some (.iload_n 3, 1), some (.iload_n 2, 1), some (.invokestatic 271, 3), none, none, some (.goto 5, 3), none, none, some (.bipush (-2), 2), none, some (.ireturn, 1)]]
/-- X8_at -/
def jv_c231 : List (List jv_I) := [[some (.aload_n 0, 1), some (.iload_n 1, 1), some (.invokevirtual 202, 3), none, none, some (.ifCond .eq 14, 3), none, none, some (.aload_n 0, 1), some (.getfield 7, 3), none, none, some (.iload_n 1, 1), some (.invokestatic 97, 3), none, none], [some (.goto 4, 3), none, none, some (.iconst (-1), 1), some (.ireturn, 1)]]
/-- X8_isAtTable -/
def jv_c232 : List (List jv_I) := [[some (.aload_n 0, 1), some (.getfield 7, 3), none, none, some (.iload_n 1, 1), some (.iconst 0, 1), some (.invokestatic 54, 3), none, none, some (.iaload, 1), some (.invokestatic 65, 3), none, none, some (.iload_n 2, 1), some (.if_icmp .ne 7, 3), none], [none, some (.iconst 1, 1), some (.goto 4, 3), none, none, some (.iconst 0, 1), some (.ireturn, 1)]]
/-- X8_membersAt -/
def jv_c233 : List (List jv_I) := [[some (.iconst 0, 1), some (.istore_n 3, 1), some (.iconst 0, 1), some (.istore 4, 2), none, some (.iload 4, 2), none, some (.aload_n 0, 1), some (.getfield 7, 3), none, none, some (.iconst 3, 1), some (.iaload, 1), some (.if_icmp .ge 37, 3), none, none], [some (.aload_n 0, 1), some (.iload 4, 2), none, some (.iload_n 1, 1), some (.invokevirtual 274, 3), none, none, some (.ifCond .eq 21, 3), none, none, some (.aload_n 0, 1), some (.getfield 7, 3), none, none, some (.iload 4, 2), none], [some (.iconst 2, 1), some (.invokestatic 54, 3), none, none, some (.iaload, 1), some (.iload_n 2, 1), some (.if_icmp .ne 6, 3), none, none, some (.iinc 3 1, 3), none, none, some (.iinc 4 1, 3), none, none, some (.goto (-42), 3)], [none, none, some (.iload_n 3, 1), some (.ireturn, 1)]]
/-- X8_familyAt -/
def jv_c234 : List (List jv_I) := [[some (.iconst 0, 1), some (.istore_n 2, 1), some (.iconst 0, 1), some (.istore_n 3, 1), some (.iconst 1, 1), some (.istore 4, 2), none, some (.iload 4, 2), none, some (.bipush 9, 2), none, some (.if_icmp .gt 33, 3), none, none, some (.aload_n 0, 1), some (.iload_n 1, 1)], [some (.iload 4, 2), none, some (.invokevirtual 277, 3), none, none, some (.istore 5, 2), none, some (.iload 5, 2), none, some (.iload_n 3, 1), some (.if_icmp .gt 6, 3), none, none, some (.goto 9, 3), none, none], [some (.iload 4, 2), none, some (.istore_n 2, 1), some (.iload 5, 2), none, some (.istore_n 3, 1), some (.iinc 4 1, 3), none, none, some (.goto (-34), 3), none, none, some (.iload_n 2, 1), some (.ireturn, 1)]]
/-- X8_table -/
def jv_c235 : List (List jv_I) := [[some (.iload_n 1, 1), some (.iconst 0, 1), some (.aload_n 0, 1), some (.getfield 7, 3), none, none, some (.invokestatic 262, 3), none, none, some (.iconst 1, 1), some (.isub, 1), some (.invokestatic 46, 3), none, none, some (.ifCond .eq 12, 3), none], [none, some (.iload_n 2, 1), some (.iconst 0, 1), some (.iconst 3, 1), some (.invokestatic 46, 3), none, none, some (.ifCond .ne 5, 3), none, none, some (.iconst (-1), 1), some (.ireturn, 1), some (.iconst 0, 1), some (.istore_n 3, 1), some (.iconst 0, 1), some (.istore 4, 2)], [none, some (.iconst 0, 1), some (.istore 5, 2), none, some (.iconst 0, 1), some (.istore 6, 2), none, some (.iload 6, 2), none, some (.aload_n 0, 1), some (.getfield 7, 3), none, none, some (.iconst 3, 1), some (.iaload, 1), some (.if_icmp .ge 51, 3)], [none, none, some (.aload_n 0, 1), some (.iload 6, 2), none, some (.iload_n 1, 1), some (.invokevirtual 274, 3), none, none, some (.ifCond .ne 6, 3), none, none, some (.goto 32, 3), none, none, some (.aload_n 0, 1)], [some (.getfield 7, 3), none, none, some (.iload 6, 2), none, some (.invokestatic 81, 3), none, none, some (.istore 7, 2), none, some (.iinc 3 1, 3), none, none, some (.iload 5, 2), none, some (.iload 7, 2)], [none, some (.iadd, 1), some (.istore 5, 2), none, some (.iload 7, 2), none, some (.ifCond .ge 6, 3), none, none, some (.iinc 4 1, 3), none, none, some (.iinc 6 1, 3), none, none, some (.goto (-56), 3)], [none, none, some (.iload_n 2, 1), some (.ifCond .ne 7, 3), none, none, some (.iload_n 3, 1), some (.goto 32, 3), none, none, some (.iload_n 2, 1), some (.iconst 1, 1), some (.if_icmp .ne 8, 3), none, none, some (.iload 4, 2)], [none, some (.goto 22, 3), none, none, some (.iload_n 2, 1), some (.iconst 2, 1), some (.if_icmp .ne 12, 3), none, none, some (.iload 5, 2), none, some (.sipush 1000, 3), none, none, some (.iadd, 1), some (.goto 8, 3)], [none, none, some (.aload_n 0, 1), some (.iload_n 1, 1), some (.invokevirtual 280, 3), none, none, some (.ireturn, 1)]]
/-- X8_tablesOfFamily -/
def jv_c236 : List (List jv_I) := [[some (.iconst 0, 1), some (.istore_n 2, 1), some (.iconst 0, 1), some (.istore_n 3, 1), some (.iload_n 3, 1), some (.aload_n 0, 1), some (.getfield 7, 3), none, none, some (.invokestatic 262, 3), none, none, some (.if_icmp .ge 21, 3), none, none, some (.aload_n 0, 1)], [some (.iload_n 3, 1), some (.iload_n 1, 1), some (.invokevirtual 277, 3), none, none, some (.ifCond .le 6, 3), none, none, some (.iinc 2 1, 3), none, none, some (.iinc 3 1, 3), none, none, some (.goto (-26), 3), none], [none, some (.iload_n 2, 1), some (.ireturn, 1)]]
/-- X8_joyOfFamily -/
def jv_c237 : List (List jv_I) := [[some (.iconst 0, 1), some (.istore_n 2, 1), some (.iconst 0, 1), some (.istore_n 3, 1), some (.iload_n 3, 1), some (.aload_n 0, 1), some (.getfield 7, 3), none, none, some (.iconst 3, 1), some (.iaload, 1), some (.if_icmp .ge 34, 3), none, none, some (.aload_n 0, 1), some (.getfield 7, 3)], [none, none, some (.iload_n 3, 1), some (.iconst 2, 1), some (.invokestatic 54, 3), none, none, some (.iaload, 1), some (.iload_n 1, 1), some (.if_icmp .ne 14, 3), none, none, some (.iload_n 2, 1), some (.aload_n 0, 1), some (.getfield 7, 3), none], [none, some (.iload_n 3, 1), some (.invokestatic 81, 3), none, none, some (.iadd, 1), some (.istore_n 2, 1), some (.iinc 3 1, 3), none, none, some (.goto (-38), 3), none, none, some (.iload_n 2, 1), some (.ireturn, 1)]]
/-- X8_family -/
def jv_c238 : List (List jv_I) := [[some (.iload_n 1, 1), some (.iconst 1, 1), some (.bipush 9, 2), none, some (.invokestatic 46, 3), none, none, some (.ifCond .ne 5, 3), none, none, some (.iconst (-1), 1), some (.ireturn, 1), some (.iload_n 2, 1), some (.tableswitch 49 0 2 #[27, 33, 39], 27), none, none], [none, none, none, none, none, none, none, none, none, none, none, none, none, none, none, none], [none, none, none, none, none, none, none, none, some (.aload_n 0, 1), some (.iload_n 1, 1), some (.invokevirtual 253, 3), none, none, some (.ireturn, 1), some (.aload_n 0, 1), some (.iload_n 1, 1)], [some (.invokevirtual 283, 3), none, none, some (.ireturn, 1), some (.aload_n 0, 1), some (.iload_n 1, 1), some (.invokevirtual 286, 3), none, none, some (.sipush 1000, 3), none, none, some (.iadd, 1), some (.ireturn, 1), some (.iconst (-1), 1), some (.ireturn, 1)]]
/-- X8_ranked -/
def jv_c239 : List (List jv_I) := [[some (.iload_n 1, 1), some (.ifCond .ge 5, 3), none, none, some (.iconst (-1), 1), some (.ireturn, 1), some (.iconst 0, 1), some (.istore_n 2, 1), some (.iload_n 2, 1), some (.aload_n 0, 1), some (.getfield 7, 3), none, none, some (.iconst 3, 1), some (.iaload, 1), some (.if_icmp .ge 20, 3)], [none, none, some (.aload_n 0, 1), some (.iload_n 2, 1), some (.invokevirtual 268, 3), none, none, some (.iload_n 1, 1), some (.if_icmp .ne 5, 3), none, none, some (.iload_n 2, 1), some (.ireturn, 1), some (.iinc 2 1, 3), none, none], [some (.goto (-24), 3), none, none, some (.bipush (-2), 2), none, some (.ireturn, 1)]]
/-- X8_why -/
def jv_c240 : List (List jv_I) := [[some (.aload_n 0, 1), some (.iload_n 1, 1), some (.iload_n 2, 1), some (.invokevirtual 222, 3), none, none, some (.ifCond .eq 23, 3), none, none, some (.iload_n 3, 1), some (.invokestatic 225, 3), none, none, some (.ifCond .eq 16, 3), none, none], [some (.aload_n 0, 1), some (.getfield 7, 3), none, none, some (.iload_n 1, 1), some (.iload_n 2, 1), some (.iload_n 3, 1), some (.invokestatic 112, 3), none, none, some (.goto 4, 3), none, none, some (.iconst (-1), 1), some (.ireturn, 1)]]
/-- X8_whyMove -/
def jv_c241 : List (List jv_I) := [[some (.aload_n 0, 1), some (.iload_n 1, 1), some (.invokevirtual 50, 3), none, none, some (.ifCond .eq 23, 3), none, none, some (.aload_n 0, 1), some (.iload_n 2, 1), some (.invokevirtual 202, 3), none, none, some (.ifCond .eq 15, 3), none, none], [some (.aload_n 0, 1), some (.getfield 7, 3), none, none, some (.iload_n 1, 1), some (.iload_n 2, 1), some (.invokestatic 231, 3), none, none, some (.goto 4, 3), none, none, some (.iconst (-1), 1), some (.ireturn, 1)]]
/-- X8_joyAt -/
def jv_c242 : List (List jv_I) := [[some (.aload_n 0, 1), some (.iload_n 1, 1), some (.invokevirtual 50, 3), none, none, some (.ifCond .eq 26, 3), none, none, some (.aload_n 0, 1), some (.iload_n 2, 1), some (.invokevirtual 202, 3), none, none, some (.ifCond .eq 18, 3), none, none], [some (.aload_n 0, 1), some (.getfield 7, 3), none, none, some (.iload_n 1, 1), some (.iload_n 2, 1), some (.invokestatic 78, 3), none, none, some (.bipush 100, 2), none, some (.iadd, 1), some (.goto 4, 3), none, none, some (.iconst (-1), 1)], [some (.ireturn, 1)]]
/-- X8_ifSwapped -/
def jv_c243 : List (List jv_I) := [[some (.aload_n 0, 1), some (.iload_n 1, 1), some (.iload_n 2, 1), some (.invokevirtual 222, 3), none, none, some (.ifCond .ne 5, 3), none, none, some (.iconst (-1), 1), some (.ireturn, 1), some (.iload_n 3, 1), some (.tableswitch 78 0 2 #[28, 42, 56], 28), none, none, none], [none, none, none, none, none, none, none, none, none, none, none, none, none, none, none, none], [none, none, none, none, none, none, none, none, some (.aload_n 0, 1), some (.getfield 7, 3), none, none, some (.iload_n 1, 1), some (.iload_n 2, 1), some (.iload_n 1, 1), some (.invokestatic 93, 3)], [none, none, some (.bipush 100, 2), none, some (.iadd, 1), some (.ireturn, 1), some (.aload_n 0, 1), some (.getfield 7, 3), none, none, some (.iload_n 1, 1), some (.iload_n 2, 1), some (.iload_n 2, 1), some (.invokestatic 93, 3), none, none], [some (.bipush 100, 2), none, some (.iadd, 1), some (.ireturn, 1), some (.aload_n 0, 1), some (.getfield 7, 3), none, none, some (.invokestatic 108, 3), none, none, some (.aload_n 0, 1), some (.getfield 7, 3), none, none, some (.iload_n 1, 1)], [some (.iload_n 2, 1), some (.invokestatic 115, 3), none, none, some (.iadd, 1), some (.sipush 1000, 3), none, none, some (.iadd, 1), some (.ireturn, 1), some (.iconst (-1), 1), some (.ireturn, 1)]]
/-- X8_leastPrice -/
def jv_c244 : List (List jv_I) := [[some (.aload_n 0, 1), some (.iload_n 1, 1), some (.iload_n 2, 1), some (.invokevirtual 222, 3), none, none, some (.ifCond .ne 5, 3), none, none, some (.iconst (-1), 1), some (.ireturn, 1), some (.iconst 0, 1), some (.istore_n 3, 1), some (.iload_n 3, 1), some (.bipush 9, 2), none], [some (.if_icmp .gt 24, 3), none, none, some (.aload_n 0, 1), some (.getfield 7, 3), none, none, some (.iload_n 1, 1), some (.iload_n 2, 1), some (.iload_n 3, 1), some (.invokestatic 112, 3), none, none, some (.ifCond .ne 5, 3), none, none], [some (.iload_n 3, 1), some (.ireturn, 1), some (.iinc 3 1, 3), none, none, some (.goto (-24), 3), none, none, some (.bipush (-2), 2), none, some (.ireturn, 1)]]
/-- X8_bestSeat -/
def jv_c245 : List (List jv_I) := [[some (.aload_n 0, 1), some (.iload_n 1, 1), some (.invokevirtual 50, 3), none, none, some (.ifCond .ne 5, 3), none, none, some (.iconst (-1), 1), some (.ireturn, 1), some (.bipush (-2), 2), none, some (.istore_n 2, 1), some (.iconst 0, 1), some (.istore_n 3, 1), some (.iload_n 3, 1)], [some (.iconst 4, 1), some (.aload_n 0, 1), some (.getfield 7, 3), none, none, some (.iconst 0, 1), some (.iaload, 1), some (.imul, 1), some (.if_icmp .ge 51, 3), none, none, some (.aload_n 0, 1), some (.getfield 7, 3), none, none, some (.iload_n 1, 1)], [some (.iload_n 3, 1), some (.invokestatic 231, 3), none, none, some (.ifCond .le 6, 3), none, none, some (.goto 30, 3), none, none, some (.iload_n 2, 1), some (.ifCond .lt 24, 3), none, none, some (.aload_n 0, 1), some (.getfield 7, 3)], [none, none, some (.iload_n 1, 1), some (.iload_n 3, 1), some (.invokestatic 78, 3), none, none, some (.aload_n 0, 1), some (.getfield 7, 3), none, none, some (.iload_n 1, 1), some (.iload_n 2, 1), some (.invokestatic 78, 3), none, none], [some (.if_icmp .le 5, 3), none, none, some (.iload_n 3, 1), some (.istore_n 2, 1), some (.iinc 3 1, 3), none, none, some (.goto (-57), 3), none, none, some (.iload_n 2, 1), some (.ireturn, 1)]]
/-- X8_partner -/
def jv_c246 : List (List jv_I) := [[some (.aload_n 0, 1), some (.iload_n 1, 1), some (.invokevirtual 50, 3), none, none, some (.ifCond .ne 5, 3), none, none, some (.iconst (-1), 1), some (.ireturn, 1), some (.bipush (-2), 2), none, some (.istore_n 2, 1), some (.iconst 0, 1), some (.istore_n 3, 1), some (.iconst 0, 1)], [some (.istore 4, 2), none, some (.iload 4, 2), none, some (.aload_n 0, 1), some (.getfield 7, 3), none, none, some (.iconst 3, 1), some (.iaload, 1), some (.if_icmp .ge 60, 3), none, none, some (.iload 4, 2), none, some (.iload_n 1, 1)], [some (.if_icmp .eq 48, 3), none, none, some (.aload_n 0, 1), some (.getfield 7, 3), none, none, some (.iload_n 1, 1), some (.iload 4, 2), none, some (.iconst 0, 1), some (.invokestatic 112, 3), none, none, some (.ifCond .le 6, 3), none], [none, some (.goto 31, 3), none, none, some (.aload_n 0, 1), some (.getfield 7, 3), none, none, some (.iload_n 1, 1), some (.iload 4, 2), none, some (.iload_n 1, 1), some (.invokestatic 93, 3), none, none, some (.istore 5, 2)], [none, some (.iload 5, 2), none, some (.iload_n 3, 1), some (.if_icmp .gt 6, 3), none, none, some (.goto 9, 3), none, none, some (.iload 4, 2), none, some (.istore_n 2, 1), some (.iload 5, 2), none, some (.istore_n 3, 1)], [some (.iinc 4 1, 3), none, none, some (.goto (-65), 3), none, none, some (.iload_n 2, 1), some (.ireturn, 1)]]
/-- X8_rings -/
def jv_c247 : List (List jv_I) := [[some (.iconst 0, 1), some (.istore_n 1, 1), some (.iconst 0, 1), some (.istore_n 2, 1), some (.iload_n 2, 1), some (.aload_n 0, 1), some (.getfield 7, 3), none, none, some (.iconst 3, 1), some (.iaload, 1), some (.if_icmp .ge 91, 3), none, none, some (.iload_n 2, 1), some (.iconst 1, 1)], [some (.iadd, 1), some (.istore_n 3, 1), some (.iload_n 3, 1), some (.aload_n 0, 1), some (.getfield 7, 3), none, none, some (.iconst 3, 1), some (.iaload, 1), some (.if_icmp .ge 71, 3), none, none, some (.iload_n 2, 1), some (.iconst 1, 1), some (.iadd, 1), some (.istore 4, 2)], [none, some (.iload 4, 2), none, some (.aload_n 0, 1), some (.getfield 7, 3), none, none, some (.iconst 3, 1), some (.iaload, 1), some (.if_icmp .ge 49, 3), none, none, some (.iload 4, 2), none, some (.iload_n 3, 1), some (.if_icmp .eq 37, 3)], [none, none, some (.aload_n 0, 1), some (.getfield 7, 3), none, none, some (.iload_n 2, 1), some (.iload_n 3, 1), some (.iload 4, 2), none, some (.invokestatic 234, 3), none, none, some (.ifCond .le 6, 3), none, none], [some (.goto 20, 3), none, none, some (.aload_n 0, 1), some (.getfield 7, 3), none, none, some (.iload_n 2, 1), some (.iload_n 3, 1), some (.iload 4, 2), none, some (.invokestatic 237, 3), none, none, some (.ifCond .le 6, 3), none], [none, some (.iinc 1 1, 3), none, none, some (.iinc 4 1, 3), none, none, some (.goto (-54), 3), none, none, some (.iinc 3 1, 3), none, none, some (.goto (-75), 3), none, none], [some (.iinc 2 1, 3), none, none, some (.goto (-95), 3), none, none, some (.iload_n 1, 1), some (.ireturn, 1)]]
/-- X8_ifSettled -/
def jv_c248 : List (List jv_I) := [[some (.iload_n 1, 1), some (.iconst 0, 1), some (.iconst 2, 1), some (.invokestatic 46, 3), none, none, some (.ifCond .ne 5, 3), none, none, some (.iconst (-1), 1), some (.ireturn, 1), some (.aload_n 0, 1), some (.invokevirtual 240, 3), none, none, some (.aload_n 0, 1)], [some (.getfield 16, 3), none, none, some (.invokestatic 243, 3), none, none, some (.istore_n 2, 1), some (.iload_n 1, 1), some (.ifCond .ne 7, 3), none, none, some (.iload_n 2, 1), some (.goto 29, 3), none, none, some (.iload_n 1, 1)], [some (.iconst 1, 1), some (.if_icmp .ne 17, 3), none, none, some (.aload_n 0, 1), some (.getfield 16, 3), none, none, some (.invokestatic 108, 3), none, none, some (.sipush 10000, 3), none, none, some (.iadd, 1), some (.goto 10, 3)], [none, none, some (.aload_n 0, 1), some (.getfield 16, 3), none, none, some (.invokestatic 256, 3), none, none, some (.ireturn, 1)]]
/-- X8_ifFirst -/
def jv_c249 : List (List jv_I) := [[some (.iload_n 1, 1), some (.iconst 0, 1), some (.aload_n 0, 1), some (.getfield 7, 3), none, none, some (.iconst 0, 1), some (.iaload, 1), some (.invokestatic 46, 3), none, none, some (.ifCond .eq 14, 3), none, none, some (.aload_n 0, 1), some (.getfield 7, 3)], [none, none, some (.iload_n 1, 1), some (.invokestatic 219, 3), none, none, some (.goto 4, 3), none, none, some (.iconst (-1), 1), some (.ireturn, 1)]]
/-- X8_log -/
def jv_c250 : List (List jv_I) := [[some (.iload_n 1, 1), some (.ifCond .lt 12, 3), none, none, some (.iload_n 2, 1), some (.iconst 0, 1), some (.iconst 2, 1), some (.invokestatic 46, 3), none, none, some (.ifCond .ne 5, 3), none, none, some (.iconst (-1), 1), some (.ireturn, 1), some (.iload_n 1, 1)], [some (.aload_n 0, 1), some (.getfield 7, 3), none, none, some (.sipush 209, 3), none, none, some (.iaload, 1), some (.if_icmp .ge 20, 3), none, none, some (.aload_n 0, 1), some (.getfield 7, 3), none, none, some (.sipush 210, 3)], [none, none, some (.iconst 3, 1), some (.iload_n 1, 1), some (.imul, 1), some (.iadd, 1), some (.iload_n 2, 1), some (.iadd, 1), some (.iaload, 1), some (.goto 5, 3), none, none, some (.bipush (-2), 2), none, some (.ireturn, 1)]]
/-- X8_full -/
def jv_c251 : List (List jv_I) := [[some (.aload_n 0, 1), some (.getfield 7, 3), none, none, some (.iconst 3, 1), some (.iaload, 1), some (.i2f, 1), some (.iconst 4, 1), some (.aload_n 0, 1), some (.getfield 7, 3), none, none, some (.iconst 0, 1), some (.iaload, 1), some (.imul, 1), some (.i2f, 1)], [some (.fdiv, 1), some (.freturn, 1)]]
/-- X8_meanJoy -/
def jv_c252 : List (List jv_I) := [[some (.aload_n 0, 1), some (.getfield 7, 3), none, none, some (.iconst 3, 1), some (.iaload, 1), some (.ifCond .ne 7, 3), none, none, some (.dconst 0, 1), some (.goto 19, 3), none, none, some (.aload_n 0, 1), some (.getfield 7, 3), none], [none, some (.invokestatic 108, 3), none, none, some (.i2d, 1), some (.aload_n 0, 1), some (.getfield 7, 3), none, none, some (.iconst 3, 1), some (.iaload, 1), some (.i2d, 1), some (.ddiv, 1), some (.dreturn, 1)]]
/-- X8_puts -/
def jv_c253 : List (List jv_I) := [[some (.aload_n 0, 1), some (.getfield 36, 3), none, none, some (.aload_n 0, 1), some (.getfield 289, 3), none, none, some (.iload_n 1, 1), some (.iastore, 1), some (.aload_n 0, 1), some (.dup, 1), some (.getfield 289, 3), none, none, some (.iconst 1, 1)], [some (.iadd, 1), some (.putfield 289, 3), none, none, some (.return_, 1)]]
/-- X8_writtenAt -/
def jv_c254 : List (List jv_I) := [[some (.iload_n 1, 1), some (.aload_n 0, 1), some (.getfield 289, 3), none, none, some (.if_icmp .ge 12, 3), none, none, some (.aload_n 0, 1), some (.getfield 36, 3), none, none, some (.iload_n 1, 1), some (.iaload, 1), some (.goto 5, 3), none], [none, some (.bipush (-2), 2), none, some (.ireturn, 1)]]
/-- X8_layPlan -/
def jv_c255 : List (List jv_I) := [[some (.aload_n 0, 1), some (.iconst 0, 1), some (.putfield 289, 3), none, none, some (.iconst 0, 1), some (.istore_n 1, 1), some (.iload_n 1, 1), some (.aload_n 0, 1), some (.getfield 7, 3), none, none, some (.iconst 0, 1), some (.iaload, 1), some (.if_icmp .ge 76, 3), none], [none, some (.aload_n 0, 1), some (.iload_n 1, 1), some (.aload_n 0, 1), some (.getfield 7, 3), none, none, some (.iconst 1, 1), some (.iaload, 1), some (.if_icmp .ge 8, 3), none, none, some (.bipush 61, 2), none, some (.goto 5, 3), none], [none, some (.bipush 45, 2), none, some (.invokevirtual 292, 3), none, none, some (.aload_n 0, 1), some (.iload_n 1, 1), some (.invokestatic 75, 3), none, none, some (.ifCond .eq 8, 3), none, none, some (.bipush 62, 2), none], [some (.goto 5, 3), none, none, some (.bipush 60, 2), none, some (.invokevirtual 292, 3), none, none, some (.iconst 0, 1), some (.istore_n 2, 1), some (.iload_n 2, 1), some (.iconst 4, 1), some (.if_icmp .ge 18, 3), none, none, some (.aload_n 0, 1)], [some (.iconst 4, 1), some (.iload_n 1, 1), some (.imul, 1), some (.iload_n 2, 1), some (.iadd, 1), some (.invokevirtual 295, 3), none, none, some (.iinc 2 1, 3), none, none, some (.goto (-17), 3), none, none, some (.aload_n 0, 1), some (.bipush 10, 2)], [none, some (.invokevirtual 292, 3), none, none, some (.iinc 1 1, 3), none, none, some (.goto (-80), 3), none, none, some (.return_, 1)]]
/-- X8_putsSeat -/
def jv_c256 : List (List jv_I) := [[some (.aload_n 0, 1), some (.getfield 7, 3), none, none, some (.iload_n 1, 1), some (.invokestatic 97, 3), none, none, some (.istore_n 2, 1), some (.iload_n 2, 1), some (.ifCond .ge 12, 3), none, none, some (.aload_n 0, 1), some (.bipush 46, 2), none], [some (.invokevirtual 292, 3), none, none, some (.goto 41, 3), none, none, some (.aload_n 0, 1), some (.aload_n 0, 1), some (.getfield 7, 3), none, none, some (.iload_n 2, 1), some (.bipush 9, 2), none, some (.invokestatic 54, 3), none], [none, some (.iaload, 1), some (.iconst 0, 1), some (.invokestatic 271, 3), none, none, some (.aload_n 0, 1), some (.getfield 7, 3), none, none, some (.iload_n 2, 1), some (.invokestatic 81, 3), none, none, some (.ifCond .ge 8, 3), none], [none, some (.bipush 64, 2), none, some (.goto 5, 3), none, none, some (.bipush 96, 2), none, some (.iadd, 1), some (.invokevirtual 292, 3), none, none, some (.return_, 1)]]
/-- X8_planLength -/
def jv_c257 : List (List jv_I) := [[some (.aload_n 0, 1), some (.invokevirtual 298, 3), none, none, some (.aload_n 0, 1), some (.getfield 289, 3), none, none, some (.ireturn, 1)]]
/-- X8_planByte -/
def jv_c258 : List (List jv_I) := [[some (.iload_n 1, 1), some (.ifCond .ge 5, 3), none, none, some (.iconst (-1), 1), some (.ireturn, 1), some (.aload_n 0, 1), some (.invokevirtual 298, 3), none, none, some (.aload_n 0, 1), some (.iload_n 1, 1), some (.invokevirtual 301, 3), none, none, some (.ireturn, 1)]]
/-- X8_putsNumber -/
def jv_c259 : List (List jv_I) := [[some (.iload_n 1, 1), some (.bipush 9, 2), none, some (.if_icmp .le 14, 3), none, none, some (.aload_n 0, 1), some (.bipush 48, 2), none, some (.iload_n 1, 1), some (.bipush 10, 2), none, some (.idiv, 1), some (.iadd, 1), some (.invokevirtual 292, 3), none], [none, some (.aload_n 0, 1), some (.bipush 48, 2), none, some (.iload_n 1, 1), some (.bipush 10, 2), none, some (.irem, 1), some (.iadd, 1), some (.invokevirtual 292, 3), none, none, some (.return_, 1)]]
/-- X8_putsNext -/
def jv_c260 : List (List jv_I) := [[some (.aload_n 0, 1), some (.bipush 32, 2), none, some (.invokevirtual 292, 3), none, none, some (.aload_n 0, 1), some (.iload_n 1, 1), some (.invokevirtual 304, 3), none, none, some (.return_, 1)]]
/-- X8_putsWord -/
def jv_c261 : List (List jv_I) := [[some (.iconst 0, 1), some (.istore_n 2, 1), some (.iload_n 2, 1), some (.iload_n 1, 1), some (.invokestatic 165, 3), none, none, some (.if_icmp .ge 21, 3), none, none, some (.aload_n 0, 1), some (.bipush 96, 2), none, some (.iload_n 1, 1), some (.iload_n 2, 1), some (.invokestatic 271, 3)], [none, none, some (.iadd, 1), some (.invokevirtual 292, 3), none, none, some (.iinc 2 1, 3), none, none, some (.goto (-23), 3), none, none, some (.return_, 1)]]
/-- X8_putsPart -/
def jv_c262 : List (List jv_I) := [[some (.iload_n 2, 1), some (.ifCond .ne 4, 3), none, none, some (.return_, 1), some (.aload_n 0, 1), some (.bipush 32, 2), none, some (.invokevirtual 292, 3), none, none, some (.aload_n 0, 1), some (.iload_n 1, 1), some (.invokevirtual 307, 3), none, none], [some (.aload_n 0, 1), some (.iload_n 2, 1), some (.invokevirtual 310, 3), none, none, some (.return_, 1)]]
/-- X8_putsLike -/
def jv_c263 : List (List jv_I) := [[some (.iload_n 2, 1), some (.ifCond .ne 4, 3), none, none, some (.return_, 1), some (.aload_n 0, 1), some (.bipush 32, 2), none, some (.invokevirtual 292, 3), none, none, some (.aload_n 0, 1), some (.iload_n 1, 1), some (.invokevirtual 307, 3), none, none], [some (.aload_n 0, 1), some (.bipush 32, 2), none, some (.invokevirtual 292, 3), none, none, some (.aload_n 0, 1), some (.iload_n 2, 1), some (.ifCond .ge 8, 3), none, none, some (.bipush 45, 2), none, some (.goto 5, 3), none, none], [some (.bipush 43, 2), none, some (.invokevirtual 292, 3), none, none, some (.aload_n 0, 1), some (.iload_n 2, 1), some (.ifCond .ge 8, 3), none, none, some (.iload_n 2, 1), some (.ineg, 1), some (.goto 4, 3), none, none, some (.iload_n 2, 1)], [some (.invokevirtual 304, 3), none, none, some (.return_, 1)]]
/-- X8_putsTraveller -/
def jv_c264_0 : List (List jv_I) := [[some (.aload_n 0, 1), some (.ldc 192, 2), none, some (.invokevirtual 307, 3), none, none, some (.aload_n 0, 1), some (.aload_n 0, 1), some (.getfield 7, 3), none, none, some (.iload_n 1, 1), some (.iconst 0, 1), some (.invokestatic 54, 3), none, none], [some (.iaload, 1), some (.invokevirtual 310, 3), none, none, some (.aload_n 0, 1), some (.bipush 32, 2), none, some (.invokevirtual 292, 3), none, none, some (.aload_n 0, 1), some (.aload_n 0, 1), some (.getfield 7, 3), none, none, some (.iload_n 1, 1)], [some (.bipush 9, 2), none, some (.invokestatic 54, 3), none, none, some (.iaload, 1), some (.invokevirtual 307, 3), none, none, some (.aload_n 0, 1), some (.getfield 7, 3), none, none, some (.iload_n 1, 1), some (.iconst 1, 1), some (.invokestatic 54, 3)], [none, none, some (.iaload, 1), some (.iconst 1, 1), some (.if_icmp .ne 15, 3), none, none, some (.aload_n 0, 1), some (.bipush 32, 2), none, some (.invokevirtual 292, 3), none, none, some (.aload_n 0, 1), some (.ldc 177, 2), none], [some (.invokevirtual 307, 3), none, none, some (.aload_n 0, 1), some (.ldc 181, 2), none, some (.aload_n 0, 1), some (.getfield 7, 3), none, none, some (.iload_n 1, 1), some (.iconst 2, 1), some (.invokestatic 54, 3), none, none, some (.iaload, 1)], [some (.invokevirtual 313, 3), none, none, some (.aload_n 0, 1), some (.ldc 182, 2), none, some (.aload_n 0, 1), some (.getfield 7, 3), none, none, some (.iload_n 1, 1), some (.iconst 3, 1), some (.invokestatic 54, 3), none, none, some (.iaload, 1)], [some (.invokevirtual 317, 3), none, none, some (.aload_n 0, 1), some (.ldc 187, 2), none, some (.aload_n 0, 1), some (.getfield 7, 3), none, none, some (.iload_n 1, 1), some (.iconst 4, 1), some (.invokestatic 54, 3), none, none, some (.iaload, 1)], [some (.invokevirtual 317, 3), none, none, some (.aload_n 0, 1), some (.getfield 7, 3), none, none, some (.iload_n 1, 1), some (.iconst 5, 1), some (.invokestatic 54, 3), none, none, some (.iaload, 1), some (.ifCond .gt 17, 3), none, none], [some (.aload_n 0, 1), some (.getfield 7, 3), none, none, some (.iload_n 1, 1), some (.bipush 6, 2), none, some (.invokestatic 54, 3), none, none, some (.iaload, 1), some (.ifCond .le 45, 3), none, none, some (.aload_n 0, 1), some (.bipush 32, 2)], [none, some (.invokevirtual 292, 3), none, none, some (.aload_n 0, 1), some (.sipush 13550, 3), none, none, some (.invokevirtual 307, 3), none, none, some (.aload_n 0, 1), some (.aload_n 0, 1), some (.getfield 7, 3), none, none], [some (.iload_n 1, 1), some (.iconst 5, 1), some (.invokestatic 54, 3), none, none, some (.iaload, 1), some (.invokevirtual 310, 3), none, none, some (.aload_n 0, 1), some (.aload_n 0, 1), some (.getfield 7, 3), none, none, some (.iload_n 1, 1), some (.bipush 6, 2)], [none, some (.invokestatic 54, 3), none, none, some (.iaload, 1), some (.invokevirtual 310, 3), none, none, some (.aload_n 0, 1), some (.aload_n 0, 1), some (.getfield 7, 3), none, none, some (.iload_n 1, 1), some (.bipush 7, 2), none]]
def jv_c264_1 : List (List jv_I) := [[some (.invokestatic 54, 3), none, none, some (.iaload, 1), some (.invokevirtual 320, 3), none, none, some (.aload_n 0, 1), some (.getfield 7, 3), none, none, some (.iload_n 1, 1), some (.bipush 8, 2), none, some (.invokestatic 54, 3), none], [none, some (.iaload, 1), some (.bipush 99, 2), none, some (.if_icmp .ge 20, 3), none, none, some (.aload_n 0, 1), some (.ldc 189, 2), none, some (.aload_n 0, 1), some (.getfield 7, 3), none, none, some (.iload_n 1, 1), some (.bipush 8, 2)], [none, some (.invokestatic 54, 3), none, none, some (.iaload, 1), some (.invokevirtual 313, 3), none, none, some (.aload_n 0, 1), some (.bipush 59, 2), none, some (.invokevirtual 292, 3), none, none, some (.return_, 1)]]
def jv_c264 : List (List jv_I) := jv_c264_0 ++ jv_c264_1
/-- X8_putsSweets -/
def jv_c265 : List (List jv_I) := [[some (.iload_n 1, 1), some (.ifCond .ne 4, 3), none, none, some (.return_, 1), some (.aload_n 0, 1), some (.bipush 32, 2), none, some (.invokevirtual 292, 3), none, none, some (.aload_n 0, 1), some (.ldc 188, 2), none, some (.invokevirtual 307, 3), none], [none, some (.aload_n 0, 1), some (.bipush 32, 2), none, some (.invokevirtual 292, 3), none, none, some (.iload_n 1, 1), some (.bipush 99, 2), none, some (.if_icmp .le 14, 3), none, none, some (.aload_n 0, 1), some (.bipush 48, 2), none], [some (.iload_n 1, 1), some (.bipush 100, 2), none, some (.idiv, 1), some (.iadd, 1), some (.invokevirtual 292, 3), none, none, some (.iload_n 1, 1), some (.bipush 9, 2), none, some (.if_icmp .le 17, 3), none, none, some (.aload_n 0, 1), some (.bipush 48, 2)], [none, some (.iload_n 1, 1), some (.bipush 10, 2), none, some (.idiv, 1), some (.bipush 10, 2), none, some (.irem, 1), some (.iadd, 1), some (.invokevirtual 292, 3), none, none, some (.aload_n 0, 1), some (.bipush 48, 2), none, some (.iload_n 1, 1)], [some (.bipush 10, 2), none, some (.irem, 1), some (.iadd, 1), some (.invokevirtual 292, 3), none, none, some (.return_, 1)]]
/-- X8_laySetup -/
def jv_c266 : List (List jv_I) := [[some (.aload_n 0, 1), some (.iconst 0, 1), some (.putfield 289, 3), none, none, some (.aload_n 0, 1), some (.ldc 190, 2), none, some (.invokevirtual 307, 3), none, none, some (.aload_n 0, 1), some (.aload_n 0, 1), some (.getfield 7, 3), none, none], [some (.iconst 0, 1), some (.iaload, 1), some (.invokevirtual 310, 3), none, none, some (.aload_n 0, 1), some (.bipush 32, 2), none, some (.invokevirtual 292, 3), none, none, some (.aload_n 0, 1), some (.ldc 191, 2), none, some (.invokevirtual 307, 3), none], [none, some (.aload_n 0, 1), some (.aload_n 0, 1), some (.getfield 7, 3), none, none, some (.iconst 1, 1), some (.iaload, 1), some (.invokevirtual 310, 3), none, none, some (.aload_n 0, 1), some (.bipush 59, 2), none, some (.invokevirtual 292, 3), none], [none, some (.iconst 0, 1), some (.istore_n 1, 1), some (.iload_n 1, 1), some (.aload_n 0, 1), some (.getfield 7, 3), none, none, some (.iconst 3, 1), some (.iaload, 1), some (.if_icmp .ge 14, 3), none, none, some (.aload_n 0, 1), some (.iload_n 1, 1), some (.invokevirtual 323, 3)], [none, none, some (.iinc 1 1, 3), none, none, some (.goto (-18), 3), none, none, some (.return_, 1)]]
/-- X8_setupLength -/
def jv_c267 : List (List jv_I) := [[some (.aload_n 0, 1), some (.invokevirtual 326, 3), none, none, some (.aload_n 0, 1), some (.getfield 289, 3), none, none, some (.ireturn, 1)]]
/-- X8_setupByte -/
def jv_c268 : List (List jv_I) := [[some (.iload_n 1, 1), some (.ifCond .ge 5, 3), none, none, some (.iconst (-1), 1), some (.ireturn, 1), some (.aload_n 0, 1), some (.invokevirtual 326, 3), none, none, some (.aload_n 0, 1), some (.iload_n 1, 1), some (.invokevirtual 301, 3), none, none, some (.ireturn, 1)]]
/-- J9_floorMod_7cf53 -/
def jv_c269 : List (List jv_I) := [[some (.iload_n 0, 1), some (.iload_n 1, 1), some (.irem, 1), some (.istore_n 2, 1), some (.iload_n 0, 1), some (.iload_n 1, 1), some (.ixor, 1), some (.ifCond .ge 11, 3), none, none, some (.iload_n 2, 1), some (.ifCond .eq 7, 3), none, none, some (.iload_n 2, 1), some (.iload_n 1, 1)], [some (.iadd, 1), some (.ireturn, 1), some (.iload_n 2, 1), some (.ireturn, 1)]]
/-- J9_abs_0f7a4 -/
def jv_c270 : List (List jv_I) := [[some (.iload_n 0, 1), some (.ifCond .ge 8, 3), none, none, some (.iload_n 0, 1), some (.ineg, 1), some (.goto 4, 3), none, none, some (.iload_n 0, 1), some (.ireturn, 1)]]
/-- L_law -/
def jv_c271_0 : List (List jv_I) := [[some (.new 7, 3), none, none, some (.dup, 1), some (.invokespecial 9, 3), none, none, some (.astore_n 1, 1), some (.new 10, 3), none, none, some (.dup, 1), some (.invokespecial 12, 3), none, none, some (.astore_n 2, 1)], [some (.iconst 0, 1), some (.istore_n 3, 1), some (.iload_n 3, 1), some (.aload_n 0, 1), some (.arraylength, 1), some (.bipush 6, 2), none, some (.isub, 1), some (.if_icmp .gt 1269, 3), none, none, some (.aload_n 0, 1), some (.iload_n 3, 1), some (.iaload, 1), some (.bipush 63, 2), none], [some (.iand, 1), some (.tableswitch 1254 0 38 #[171, 234, 257, 270, 283, 346, 389, 412, 455, 488, 531, 544, 567, 590, 613, 626, 649, 682, 715, 738, 771, 804, 827, 870, 903, 936, 979, 1012, 1035, 1058, 1071, 1094, 1117, 1150, 1167, 1182, 1195, 1218, 1231], 171), none, none, none, none, none, none, none, none, none, none, none, none, none, none], [none, none, none, none, none, none, none, none, none, none, none, none, none, none, none, none], [none, none, none, none, none, none, none, none, none, none, none, none, none, none, none, none], [none, none, none, none, none, none, none, none, none, none, none, none, none, none, none, none], [none, none, none, none, none, none, none, none, none, none, none, none, none, none, none, none], [none, none, none, none, none, none, none, none, none, none, none, none, none, none, none, none], [none, none, none, none, none, none, none, none, none, none, none, none, none, none, none, none], [none, none, none, none, none, none, none, none, none, none, none, none, none, none, none, none], [none, none, none, none, none, none, none, none, none, none, none, none, none, none, none, none], [none, none, none, none, none, none, none, none, none, none, none, none, none, none, none, none]]
def jv_c271_1 : List (List jv_I) := [[none, none, none, none, none, none, none, none, none, none, none, none, some (.aload_n 1, 1), some (.aload_n 0, 1), some (.iload_n 3, 1), some (.iconst 1, 1)], [some (.iadd, 1), some (.iaload, 1), some (.aload_n 0, 1), some (.iload_n 3, 1), some (.iconst 2, 1), some (.iadd, 1), some (.iaload, 1), some (.aload_n 0, 1), some (.iload_n 3, 1), some (.iconst 3, 1), some (.iadd, 1), some (.iaload, 1), some (.aload_n 0, 1), some (.iload_n 3, 1), some (.iconst 4, 1), some (.iadd, 1)], [some (.iaload, 1), some (.aload_n 0, 1), some (.iload_n 3, 1), some (.iconst 5, 1), some (.iadd, 1), some (.iaload, 1), some (.invokevirtual 13, 3), none, none, some (.pop, 1), some (.aload_n 2, 1), some (.aload_n 0, 1), some (.iload_n 3, 1), some (.iconst 1, 1), some (.iadd, 1), some (.iaload, 1)], [some (.aload_n 0, 1), some (.iload_n 3, 1), some (.iconst 2, 1), some (.iadd, 1), some (.iaload, 1), some (.aload_n 0, 1), some (.iload_n 3, 1), some (.iconst 3, 1), some (.iadd, 1), some (.iaload, 1), some (.aload_n 0, 1), some (.iload_n 3, 1), some (.iconst 4, 1), some (.iadd, 1), some (.iaload, 1), some (.aload_n 0, 1)], [some (.iload_n 3, 1), some (.iconst 5, 1), some (.iadd, 1), some (.iaload, 1), some (.invokevirtual 17, 3), none, none, some (.pop, 1), some (.goto 1023, 3), none, none, some (.aload_n 1, 1), some (.aload_n 0, 1), some (.iload_n 3, 1), some (.iconst 1, 1), some (.iadd, 1)], [some (.iaload, 1), some (.invokevirtual 18, 3), none, none, some (.pop, 1), some (.aload_n 2, 1), some (.aload_n 0, 1), some (.iload_n 3, 1), some (.iconst 1, 1), some (.iadd, 1), some (.iaload, 1), some (.invokevirtual 22, 3), none, none, some (.pop, 1), some (.goto 1000, 3)], [none, none, some (.aload_n 1, 1), some (.invokevirtual 23, 3), none, none, some (.pop, 1), some (.aload_n 2, 1), some (.invokevirtual 27, 3), none, none, some (.pop, 1), some (.goto 987, 3), none, none, some (.aload_n 1, 1)], [some (.invokevirtual 28, 3), none, none, some (.pop, 1), some (.aload_n 2, 1), some (.invokevirtual 31, 3), none, none, some (.pop, 1), some (.goto 974, 3), none, none, some (.aload_n 1, 1), some (.aload_n 0, 1), some (.iload_n 3, 1), some (.iconst 1, 1)], [some (.iadd, 1), some (.iaload, 1), some (.aload_n 0, 1), some (.iload_n 3, 1), some (.iconst 2, 1), some (.iadd, 1), some (.iaload, 1), some (.aload_n 0, 1), some (.iload_n 3, 1), some (.iconst 3, 1), some (.iadd, 1), some (.iaload, 1), some (.aload_n 0, 1), some (.iload_n 3, 1), some (.iconst 4, 1), some (.iadd, 1)], [some (.iaload, 1), some (.aload_n 0, 1), some (.iload_n 3, 1), some (.iconst 5, 1), some (.iadd, 1), some (.iaload, 1), some (.invokevirtual 32, 3), none, none, some (.pop, 1), some (.aload_n 2, 1), some (.aload_n 0, 1), some (.iload_n 3, 1), some (.iconst 1, 1), some (.iadd, 1), some (.iaload, 1)], [some (.aload_n 0, 1), some (.iload_n 3, 1), some (.iconst 2, 1), some (.iadd, 1), some (.iaload, 1), some (.aload_n 0, 1), some (.iload_n 3, 1), some (.iconst 3, 1), some (.iadd, 1), some (.iaload, 1), some (.aload_n 0, 1), some (.iload_n 3, 1), some (.iconst 4, 1), some (.iadd, 1), some (.iaload, 1), some (.aload_n 0, 1)], [some (.iload_n 3, 1), some (.iconst 5, 1), some (.iadd, 1), some (.iaload, 1), some (.invokevirtual 35, 3), none, none, some (.pop, 1), some (.goto 911, 3), none, none, some (.aload_n 1, 1), some (.aload_n 0, 1), some (.iload_n 3, 1), some (.iconst 1, 1), some (.iadd, 1)]]
def jv_c271_2 : List (List jv_I) := [[some (.iaload, 1), some (.aload_n 0, 1), some (.iload_n 3, 1), some (.iconst 2, 1), some (.iadd, 1), some (.iaload, 1), some (.aload_n 0, 1), some (.iload_n 3, 1), some (.iconst 3, 1), some (.iadd, 1), some (.iaload, 1), some (.invokevirtual 36, 3), none, none, some (.pop, 1), some (.aload_n 2, 1)], [some (.aload_n 0, 1), some (.iload_n 3, 1), some (.iconst 1, 1), some (.iadd, 1), some (.iaload, 1), some (.aload_n 0, 1), some (.iload_n 3, 1), some (.iconst 2, 1), some (.iadd, 1), some (.iaload, 1), some (.aload_n 0, 1), some (.iload_n 3, 1), some (.iconst 3, 1), some (.iadd, 1), some (.iaload, 1), some (.invokevirtual 40, 3)], [none, none, some (.pop, 1), some (.goto 868, 3), none, none, some (.aload_n 1, 1), some (.aload_n 0, 1), some (.iload_n 3, 1), some (.iconst 1, 1), some (.iadd, 1), some (.iaload, 1), some (.invokevirtual 41, 3), none, none, some (.pop, 1)], [some (.aload_n 2, 1), some (.aload_n 0, 1), some (.iload_n 3, 1), some (.iconst 1, 1), some (.iadd, 1), some (.iaload, 1), some (.invokevirtual 44, 3), none, none, some (.pop, 1), some (.goto 845, 3), none, none, some (.aload_n 1, 1), some (.aload_n 0, 1), some (.iload_n 3, 1)], [some (.iconst 1, 1), some (.iadd, 1), some (.iaload, 1), some (.aload_n 0, 1), some (.iload_n 3, 1), some (.iconst 2, 1), some (.iadd, 1), some (.iaload, 1), some (.aload_n 0, 1), some (.iload_n 3, 1), some (.iconst 3, 1), some (.iadd, 1), some (.iaload, 1), some (.invokevirtual 45, 3), none, none], [some (.pop, 1), some (.aload_n 2, 1), some (.aload_n 0, 1), some (.iload_n 3, 1), some (.iconst 1, 1), some (.iadd, 1), some (.iaload, 1), some (.aload_n 0, 1), some (.iload_n 3, 1), some (.iconst 2, 1), some (.iadd, 1), some (.iaload, 1), some (.aload_n 0, 1), some (.iload_n 3, 1), some (.iconst 3, 1), some (.iadd, 1)], [some (.iaload, 1), some (.invokevirtual 48, 3), none, none, some (.pop, 1), some (.goto 802, 3), none, none, some (.aload_n 1, 1), some (.aload_n 0, 1), some (.iload_n 3, 1), some (.iconst 1, 1), some (.iadd, 1), some (.iaload, 1), some (.aload_n 0, 1), some (.iload_n 3, 1)], [some (.iconst 2, 1), some (.iadd, 1), some (.iaload, 1), some (.invokevirtual 49, 3), none, none, some (.pop, 1), some (.aload_n 2, 1), some (.aload_n 0, 1), some (.iload_n 3, 1), some (.iconst 1, 1), some (.iadd, 1), some (.iaload, 1), some (.aload_n 0, 1), some (.iload_n 3, 1), some (.iconst 2, 1)], [some (.iadd, 1), some (.iaload, 1), some (.invokevirtual 53, 3), none, none, some (.pop, 1), some (.goto 769, 3), none, none, some (.aload_n 1, 1), some (.aload_n 0, 1), some (.iload_n 3, 1), some (.iconst 1, 1), some (.iadd, 1), some (.iaload, 1), some (.aload_n 0, 1)], [some (.iload_n 3, 1), some (.iconst 2, 1), some (.iadd, 1), some (.iaload, 1), some (.aload_n 0, 1), some (.iload_n 3, 1), some (.iconst 3, 1), some (.iadd, 1), some (.iaload, 1), some (.invokevirtual 54, 3), none, none, some (.pop, 1), some (.aload_n 2, 1), some (.aload_n 0, 1), some (.iload_n 3, 1)], [some (.iconst 1, 1), some (.iadd, 1), some (.iaload, 1), some (.aload_n 0, 1), some (.iload_n 3, 1), some (.iconst 2, 1), some (.iadd, 1), some (.iaload, 1), some (.aload_n 0, 1), some (.iload_n 3, 1), some (.iconst 3, 1), some (.iadd, 1), some (.iaload, 1), some (.invokevirtual 57, 3), none, none], [some (.pop, 1), some (.goto 726, 3), none, none, some (.aload_n 1, 1), some (.invokevirtual 58, 3), none, none, some (.pop, 1), some (.aload_n 2, 1), some (.invokevirtual 61, 3), none, none, some (.pop, 1), some (.goto 713, 3), none]]
def jv_c271_3 : List (List jv_I) := [[none, some (.aload_n 1, 1), some (.aload_n 0, 1), some (.iload_n 3, 1), some (.iconst 1, 1), some (.iadd, 1), some (.iaload, 1), some (.invokevirtual 62, 3), none, none, some (.pop, 1), some (.aload_n 2, 1), some (.aload_n 0, 1), some (.iload_n 3, 1), some (.iconst 1, 1), some (.iadd, 1)], [some (.iaload, 1), some (.invokevirtual 65, 3), none, none, some (.pop, 1), some (.goto 690, 3), none, none, some (.aload_n 1, 1), some (.aload_n 0, 1), some (.iload_n 3, 1), some (.iconst 1, 1), some (.iadd, 1), some (.iaload, 1), some (.invokevirtual 66, 3), none], [none, some (.pop, 1), some (.aload_n 2, 1), some (.aload_n 0, 1), some (.iload_n 3, 1), some (.iconst 1, 1), some (.iadd, 1), some (.iaload, 1), some (.invokevirtual 69, 3), none, none, some (.pop, 1), some (.goto 667, 3), none, none, some (.aload_n 1, 1)], [some (.aload_n 0, 1), some (.iload_n 3, 1), some (.iconst 1, 1), some (.iadd, 1), some (.iaload, 1), some (.invokevirtual 70, 3), none, none, some (.pop, 1), some (.aload_n 2, 1), some (.aload_n 0, 1), some (.iload_n 3, 1), some (.iconst 1, 1), some (.iadd, 1), some (.iaload, 1), some (.invokevirtual 73, 3)], [none, none, some (.pop, 1), some (.goto 644, 3), none, none, some (.aload_n 1, 1), some (.invokevirtual 74, 3), none, none, some (.pop, 1), some (.aload_n 2, 1), some (.invokevirtual 77, 3), none, none, some (.pop, 1)], [some (.goto 631, 3), none, none, some (.aload_n 1, 1), some (.aload_n 0, 1), some (.iload_n 3, 1), some (.iconst 1, 1), some (.iadd, 1), some (.iaload, 1), some (.invokevirtual 78, 3), none, none, some (.pop, 1), some (.aload_n 2, 1), some (.aload_n 0, 1), some (.iload_n 3, 1)], [some (.iconst 1, 1), some (.iadd, 1), some (.iaload, 1), some (.invokevirtual 81, 3), none, none, some (.pop, 1), some (.goto 608, 3), none, none, some (.aload_n 1, 1), some (.aload_n 0, 1), some (.iload_n 3, 1), some (.iconst 1, 1), some (.iadd, 1), some (.iaload, 1)], [some (.aload_n 0, 1), some (.iload_n 3, 1), some (.iconst 2, 1), some (.iadd, 1), some (.iaload, 1), some (.invokevirtual 82, 3), none, none, some (.pop, 1), some (.aload_n 2, 1), some (.aload_n 0, 1), some (.iload_n 3, 1), some (.iconst 1, 1), some (.iadd, 1), some (.iaload, 1), some (.aload_n 0, 1)], [some (.iload_n 3, 1), some (.iconst 2, 1), some (.iadd, 1), some (.iaload, 1), some (.invokevirtual 85, 3), none, none, some (.pop, 1), some (.goto 575, 3), none, none, some (.aload_n 1, 1), some (.aload_n 0, 1), some (.iload_n 3, 1), some (.iconst 1, 1), some (.iadd, 1)], [some (.iaload, 1), some (.aload_n 0, 1), some (.iload_n 3, 1), some (.iconst 2, 1), some (.iadd, 1), some (.iaload, 1), some (.invokevirtual 86, 3), none, none, some (.pop, 1), some (.aload_n 2, 1), some (.aload_n 0, 1), some (.iload_n 3, 1), some (.iconst 1, 1), some (.iadd, 1), some (.iaload, 1)], [some (.aload_n 0, 1), some (.iload_n 3, 1), some (.iconst 2, 1), some (.iadd, 1), some (.iaload, 1), some (.invokevirtual 89, 3), none, none, some (.pop, 1), some (.goto 542, 3), none, none, some (.aload_n 1, 1), some (.aload_n 0, 1), some (.iload_n 3, 1), some (.iconst 1, 1)], [some (.iadd, 1), some (.iaload, 1), some (.invokevirtual 90, 3), none, none, some (.pop, 1), some (.aload_n 2, 1), some (.aload_n 0, 1), some (.iload_n 3, 1), some (.iconst 1, 1), some (.iadd, 1), some (.iaload, 1), some (.invokevirtual 93, 3), none, none, some (.pop, 1)]]
def jv_c271_4 : List (List jv_I) := [[some (.goto 519, 3), none, none, some (.aload_n 1, 1), some (.aload_n 0, 1), some (.iload_n 3, 1), some (.iconst 1, 1), some (.iadd, 1), some (.iaload, 1), some (.aload_n 0, 1), some (.iload_n 3, 1), some (.iconst 2, 1), some (.iadd, 1), some (.iaload, 1), some (.invokevirtual 94, 3), none], [none, some (.pop, 1), some (.aload_n 2, 1), some (.aload_n 0, 1), some (.iload_n 3, 1), some (.iconst 1, 1), some (.iadd, 1), some (.iaload, 1), some (.aload_n 0, 1), some (.iload_n 3, 1), some (.iconst 2, 1), some (.iadd, 1), some (.iaload, 1), some (.invokevirtual 97, 3), none, none], [some (.pop, 1), some (.goto 486, 3), none, none, some (.aload_n 1, 1), some (.aload_n 0, 1), some (.iload_n 3, 1), some (.iconst 1, 1), some (.iadd, 1), some (.iaload, 1), some (.aload_n 0, 1), some (.iload_n 3, 1), some (.iconst 2, 1), some (.iadd, 1), some (.iaload, 1), some (.invokevirtual 98, 3)], [none, none, some (.pop, 1), some (.aload_n 2, 1), some (.aload_n 0, 1), some (.iload_n 3, 1), some (.iconst 1, 1), some (.iadd, 1), some (.iaload, 1), some (.aload_n 0, 1), some (.iload_n 3, 1), some (.iconst 2, 1), some (.iadd, 1), some (.iaload, 1), some (.invokevirtual 101, 3), none], [none, some (.pop, 1), some (.goto 453, 3), none, none, some (.aload_n 1, 1), some (.aload_n 0, 1), some (.iload_n 3, 1), some (.iconst 1, 1), some (.iadd, 1), some (.iaload, 1), some (.invokevirtual 102, 3), none, none, some (.pop, 1), some (.aload_n 2, 1)], [some (.aload_n 0, 1), some (.iload_n 3, 1), some (.iconst 1, 1), some (.iadd, 1), some (.iaload, 1), some (.invokevirtual 105, 3), none, none, some (.pop, 1), some (.goto 430, 3), none, none, some (.aload_n 1, 1), some (.aload_n 0, 1), some (.iload_n 3, 1), some (.iconst 1, 1)], [some (.iadd, 1), some (.iaload, 1), some (.aload_n 0, 1), some (.iload_n 3, 1), some (.iconst 2, 1), some (.iadd, 1), some (.iaload, 1), some (.aload_n 0, 1), some (.iload_n 3, 1), some (.iconst 3, 1), some (.iadd, 1), some (.iaload, 1), some (.invokevirtual 106, 3), none, none, some (.pop, 1)], [some (.aload_n 2, 1), some (.aload_n 0, 1), some (.iload_n 3, 1), some (.iconst 1, 1), some (.iadd, 1), some (.iaload, 1), some (.aload_n 0, 1), some (.iload_n 3, 1), some (.iconst 2, 1), some (.iadd, 1), some (.iaload, 1), some (.aload_n 0, 1), some (.iload_n 3, 1), some (.iconst 3, 1), some (.iadd, 1), some (.iaload, 1)], [some (.invokevirtual 109, 3), none, none, some (.pop, 1), some (.goto 387, 3), none, none, some (.aload_n 1, 1), some (.aload_n 0, 1), some (.iload_n 3, 1), some (.iconst 1, 1), some (.iadd, 1), some (.iaload, 1), some (.aload_n 0, 1), some (.iload_n 3, 1), some (.iconst 2, 1)], [some (.iadd, 1), some (.iaload, 1), some (.invokevirtual 110, 3), none, none, some (.pop, 1), some (.aload_n 2, 1), some (.aload_n 0, 1), some (.iload_n 3, 1), some (.iconst 1, 1), some (.iadd, 1), some (.iaload, 1), some (.aload_n 0, 1), some (.iload_n 3, 1), some (.iconst 2, 1), some (.iadd, 1)], [some (.iaload, 1), some (.invokevirtual 113, 3), none, none, some (.pop, 1), some (.goto 354, 3), none, none, some (.aload_n 1, 1), some (.aload_n 0, 1), some (.iload_n 3, 1), some (.iconst 1, 1), some (.iadd, 1), some (.iaload, 1), some (.aload_n 0, 1), some (.iload_n 3, 1)], [some (.iconst 2, 1), some (.iadd, 1), some (.iaload, 1), some (.invokevirtual 114, 3), none, none, some (.pop, 1), some (.aload_n 2, 1), some (.aload_n 0, 1), some (.iload_n 3, 1), some (.iconst 1, 1), some (.iadd, 1), some (.iaload, 1), some (.aload_n 0, 1), some (.iload_n 3, 1), some (.iconst 2, 1)]]
def jv_c271_5 : List (List jv_I) := [[some (.iadd, 1), some (.iaload, 1), some (.invokevirtual 117, 3), none, none, some (.pop, 1), some (.goto 321, 3), none, none, some (.aload_n 1, 1), some (.aload_n 0, 1), some (.iload_n 3, 1), some (.iconst 1, 1), some (.iadd, 1), some (.iaload, 1), some (.aload_n 0, 1)], [some (.iload_n 3, 1), some (.iconst 2, 1), some (.iadd, 1), some (.iaload, 1), some (.aload_n 0, 1), some (.iload_n 3, 1), some (.iconst 3, 1), some (.iadd, 1), some (.iaload, 1), some (.invokevirtual 118, 3), none, none, some (.pop, 1), some (.aload_n 2, 1), some (.aload_n 0, 1), some (.iload_n 3, 1)], [some (.iconst 1, 1), some (.iadd, 1), some (.iaload, 1), some (.aload_n 0, 1), some (.iload_n 3, 1), some (.iconst 2, 1), some (.iadd, 1), some (.iaload, 1), some (.aload_n 0, 1), some (.iload_n 3, 1), some (.iconst 3, 1), some (.iadd, 1), some (.iaload, 1), some (.invokevirtual 121, 3), none, none], [some (.pop, 1), some (.goto 278, 3), none, none, some (.aload_n 1, 1), some (.aload_n 0, 1), some (.iload_n 3, 1), some (.iconst 1, 1), some (.iadd, 1), some (.iaload, 1), some (.aload_n 0, 1), some (.iload_n 3, 1), some (.iconst 2, 1), some (.iadd, 1), some (.iaload, 1), some (.invokevirtual 122, 3)], [none, none, some (.pop, 1), some (.aload_n 2, 1), some (.aload_n 0, 1), some (.iload_n 3, 1), some (.iconst 1, 1), some (.iadd, 1), some (.iaload, 1), some (.aload_n 0, 1), some (.iload_n 3, 1), some (.iconst 2, 1), some (.iadd, 1), some (.iaload, 1), some (.invokevirtual 125, 3), none], [none, some (.pop, 1), some (.goto 245, 3), none, none, some (.aload_n 1, 1), some (.aload_n 0, 1), some (.iload_n 3, 1), some (.iconst 1, 1), some (.iadd, 1), some (.iaload, 1), some (.invokevirtual 126, 3), none, none, some (.pop, 1), some (.aload_n 2, 1)], [some (.aload_n 0, 1), some (.iload_n 3, 1), some (.iconst 1, 1), some (.iadd, 1), some (.iaload, 1), some (.invokevirtual 129, 3), none, none, some (.pop, 1), some (.goto 222, 3), none, none, some (.aload_n 1, 1), some (.aload_n 0, 1), some (.iload_n 3, 1), some (.iconst 1, 1)], [some (.iadd, 1), some (.iaload, 1), some (.invokevirtual 130, 3), none, none, some (.pop, 1), some (.aload_n 2, 1), some (.aload_n 0, 1), some (.iload_n 3, 1), some (.iconst 1, 1), some (.iadd, 1), some (.iaload, 1), some (.invokevirtual 133, 3), none, none, some (.pop, 1)], [some (.goto 199, 3), none, none, some (.aload_n 1, 1), some (.invokevirtual 134, 3), none, none, some (.pop, 1), some (.aload_n 2, 1), some (.invokevirtual 137, 3), none, none, some (.pop, 1), some (.goto 186, 3), none, none], [some (.aload_n 1, 1), some (.aload_n 0, 1), some (.iload_n 3, 1), some (.iconst 1, 1), some (.iadd, 1), some (.iaload, 1), some (.invokevirtual 138, 3), none, none, some (.pop, 1), some (.aload_n 2, 1), some (.aload_n 0, 1), some (.iload_n 3, 1), some (.iconst 1, 1), some (.iadd, 1), some (.iaload, 1)], [some (.invokevirtual 141, 3), none, none, some (.pop, 1), some (.goto 163, 3), none, none, some (.aload_n 1, 1), some (.aload_n 0, 1), some (.iload_n 3, 1), some (.iconst 1, 1), some (.iadd, 1), some (.iaload, 1), some (.invokevirtual 142, 3), none, none], [some (.pop, 1), some (.aload_n 2, 1), some (.aload_n 0, 1), some (.iload_n 3, 1), some (.iconst 1, 1), some (.iadd, 1), some (.iaload, 1), some (.invokevirtual 145, 3), none, none, some (.pop, 1), some (.goto 140, 3), none, none, some (.aload_n 1, 1), some (.aload_n 0, 1)]]
def jv_c271_6 : List (List jv_I) := [[some (.iload_n 3, 1), some (.iconst 1, 1), some (.iadd, 1), some (.iaload, 1), some (.aload_n 0, 1), some (.iload_n 3, 1), some (.iconst 2, 1), some (.iadd, 1), some (.iaload, 1), some (.invokevirtual 146, 3), none, none, some (.pop, 1), some (.aload_n 2, 1), some (.aload_n 0, 1), some (.iload_n 3, 1)], [some (.iconst 1, 1), some (.iadd, 1), some (.iaload, 1), some (.aload_n 0, 1), some (.iload_n 3, 1), some (.iconst 2, 1), some (.iadd, 1), some (.iaload, 1), some (.invokevirtual 149, 3), none, none, some (.pop, 1), some (.goto 107, 3), none, none, some (.aload_n 1, 1)], [some (.invokevirtual 150, 3), none, none, some (.f2d, 1), some (.dstore 4, 2), none, some (.aload_n 2, 1), some (.invokevirtual 154, 3), none, none, some (.f2d, 1), some (.dstore 6, 2), none, some (.goto 90, 3), none, none], [some (.aload_n 1, 1), some (.invokevirtual 155, 3), none, none, some (.dstore 4, 2), none, some (.aload_n 2, 1), some (.invokevirtual 159, 3), none, none, some (.dstore 6, 2), none, some (.goto 75, 3), none, none, some (.aload_n 1, 1)], [some (.invokevirtual 160, 3), none, none, some (.aload_n 2, 1), some (.invokevirtual 163, 3), none, none, some (.if_icmp .eq 64, 3), none, none, some (.iconst 0, 1), some (.ireturn, 1), some (.aload_n 1, 1), some (.aload_n 0, 1), some (.iload_n 3, 1), some (.iconst 1, 1)], [some (.iadd, 1), some (.iaload, 1), some (.invokevirtual 164, 3), none, none, some (.pop, 1), some (.aload_n 2, 1), some (.aload_n 0, 1), some (.iload_n 3, 1), some (.iconst 1, 1), some (.iadd, 1), some (.iaload, 1), some (.invokevirtual 167, 3), none, none, some (.pop, 1)], [some (.goto 39, 3), none, none, some (.aload_n 1, 1), some (.invokevirtual 168, 3), none, none, some (.pop, 1), some (.aload_n 2, 1), some (.invokevirtual 171, 3), none, none, some (.pop, 1), some (.goto 26, 3), none, none], [some (.aload_n 1, 1), some (.aload_n 0, 1), some (.iload_n 3, 1), some (.iconst 1, 1), some (.iadd, 1), some (.iaload, 1), some (.invokevirtual 172, 3), none, none, some (.pop, 1), some (.aload_n 2, 1), some (.aload_n 0, 1), some (.iload_n 3, 1), some (.iconst 1, 1), some (.iadd, 1), some (.iaload, 1)], [some (.invokevirtual 175, 3), none, none, some (.pop, 1), some (.goto 3, 3), none, none, some (.iinc 3 6, 3), none, none, some (.goto (-1272), 3), none, none, some (.iconst 1, 1), some (.ireturn, 1)]]
def jv_c271 : List (List jv_I) := jv_c271_0 ++ jv_c271_1 ++ jv_c271_2 ++ jv_c271_3 ++ jv_c271_4 ++ jv_c271_5 ++ jv_c271_6
def jv_prog : List (List (List (List jv_I))) := [[jv_c0, jv_c1, jv_c2, jv_c3, jv_c4, jv_c5, jv_c6, jv_c7, jv_c8, jv_c9, jv_c10, jv_c11, jv_c12, jv_c13, jv_c14, jv_c15], [jv_c16, jv_c17, jv_c18, jv_c19, jv_c20, jv_c21, jv_c22, jv_c23, jv_c24, jv_c25, jv_c26, jv_c27, jv_c28, jv_c29, jv_c30, jv_c31], [jv_c32, jv_c33, jv_c34, jv_c35, jv_c36, jv_c37, jv_c38, jv_c39, jv_c40, jv_c41, jv_c42, jv_c43, jv_c44, jv_c45, jv_c46, jv_c47], [jv_c48, jv_c49, jv_c50, jv_c51, jv_c52, jv_c53, jv_c54, jv_c55, jv_c56, jv_c57, jv_c58, jv_c59, jv_c60, jv_c61, jv_c62, jv_c63], [jv_c64, jv_c65, jv_c66, jv_c67, jv_c68, jv_c69, jv_c70, jv_c71, jv_c72, jv_c73, jv_c74, jv_c75, jv_c76, jv_c77, jv_c78, jv_c79], [jv_c80, jv_c81, jv_c82, jv_c83, jv_c84, jv_c85, jv_c86, jv_c87, jv_c88, jv_c89, jv_c90, jv_c91, jv_c92, jv_c93, jv_c94, jv_c95], [jv_c96, jv_c97, jv_c98, jv_c99, jv_c100, jv_c101, jv_c102, jv_c103, jv_c104, jv_c105, jv_c106, jv_c107, jv_c108, jv_c109, jv_c110, jv_c111], [jv_c112, jv_c113, jv_c114, jv_c115, jv_c116, jv_c117, jv_c118, jv_c119, jv_c120, jv_c121, jv_c122, jv_c123, jv_c124, jv_c125, jv_c126, jv_c127], [jv_c128, jv_c129, jv_c130, jv_c131, jv_c132, jv_c133, jv_c134, jv_c135, jv_c136, jv_c137, jv_c138, jv_c139, jv_c140, jv_c141, jv_c142, jv_c143], [jv_c144, jv_c145, jv_c146, jv_c147, jv_c148, jv_c149, jv_c150, jv_c151, jv_c152, jv_c153, jv_c154, jv_c155, jv_c156, jv_c157, jv_c158, jv_c159], [jv_c160, jv_c161, jv_c162, jv_c163, jv_c164, jv_c165, jv_c166, jv_c167, jv_c168, jv_c169, jv_c170, jv_c171, jv_c172, jv_c173, jv_c174, jv_c175], [jv_c176, jv_c177, jv_c178, jv_c179, jv_c180, jv_c181, jv_c182, jv_c183, jv_c184, jv_c185, jv_c186, jv_c187, jv_c188, jv_c189, jv_c190, jv_c191], [jv_c192, jv_c193, jv_c194, jv_c195, jv_c196, jv_c197, jv_c198, jv_c199, jv_c200, jv_c201, jv_c202, jv_c203, jv_c204, jv_c205, jv_c206, jv_c207], [jv_c208, jv_c209, jv_c210, jv_c211, jv_c212, jv_c213, jv_c214, jv_c215, jv_c216, jv_c217, jv_c218, jv_c219, jv_c220, jv_c221, jv_c222, jv_c223], [jv_c224, jv_c225, jv_c226, jv_c227, jv_c228, jv_c229, jv_c230, jv_c231, jv_c232, jv_c233, jv_c234, jv_c235, jv_c236, jv_c237, jv_c238, jv_c239], [jv_c240, jv_c241, jv_c242, jv_c243, jv_c244, jv_c245, jv_c246, jv_c247, jv_c248, jv_c249, jv_c250, jv_c251, jv_c252, jv_c253, jv_c254, jv_c255], [jv_c256, jv_c257, jv_c258, jv_c259, jv_c260, jv_c261, jv_c262, jv_c263, jv_c264, jv_c265, jv_c266, jv_c267, jv_c268, jv_c269, jv_c270, jv_c271]]
def jv_code (y pc : Nat) : jv_I := match jv_nth jv_prog (y / 16) with
  | none => none
  | some a => match jv_nth a (y % 16) with
    | none => none
    | some b => match jv_nth b (pc / 16) with
      | none => none
      | some c => match jv_nth c (pc % 16) with
        | none => none
        | some d => d
/-- a method: its class, kind (0 static, 1 virtual, 2 constructor), words of arguments, locals, frames below, words below -/
def jv_i0 : List (Nat × Nat × Nat × Nat × Nat × Nat) := [(0, 2, 1, 1, 1, 20), (0, 1, 1, 1, 0, 0), (0, 1, 2, 3, 0, 0), (0, 1, 3, 3, 1, 22), (0, 1, 3, 3, 0, 0), (0, 1, 4, 4, 2, 44), (0, 1, 3, 4, 2, 44), (1, 2, 1, 2, 3, 61), (1, 1, 1, 1, 0, 0), (1, 1, 2, 2, 1, 22), (1, 1, 2, 2, 2, 44), (1, 1, 2, 2, 2, 44), (2, 2, 1, 1, 2, 40), (2, 0, 1, 1, 0, 0), (2, 1, 1, 1, 2, 42), (2, 1, 1, 2, 1, 21)]
def jv_i1 : List (Nat × Nat × Nat × Nat × Nat × Nat) := [(2, 1, 2, 2, 1, 21), (2, 1, 2, 3, 6, 120), (2, 1, 1, 1, 7, 142), (2, 1, 1, 1, 8, 162), (2, 1, 1, 3, 1, 21), (2, 1, 1, 3, 1, 21), (2, 1, 2, 2, 2, 42), (2, 1, 2, 2, 7, 142), (2, 1, 2, 3, 7, 142), (2, 1, 3, 4, 3, 63), (2, 1, 1, 3, 4, 86), (2, 1, 2, 2, 4, 86), (2, 1, 1, 2, 9, 182), (2, 1, 1, 1, 9, 182), (2, 1, 1, 1, 3, 62), (2, 1, 2, 3, 11, 224)]
def jv_i2 : List (Nat × Nat × Nat × Nat × Nat × Nat) := [(2, 1, 2, 2, 10, 203), (3, 2, 1, 1, 1, 20), (3, 1, 3, 4, 9, 187), (3, 1, 2, 3, 8, 165), (3, 1, 4, 4, 7, 142), (3, 1, 3, 3, 7, 142), (3, 1, 2, 4, 1, 21), (3, 1, 2, 3, 6, 120), (3, 1, 2, 2, 0, 0), (4, 2, 1, 1, 1, 20), (4, 1, 1, 1, 0, 0), (4, 1, 2, 3, 1, 21), (4, 1, 2, 2, 0, 0), (4, 1, 2, 2, 0, 0), (5, 2, 1, 2, 2, 40), (5, 1, 1, 2, 1, 20)]
def jv_i3 : List (Nat × Nat × Nat × Nat × Nat × Nat) := [(5, 1, 2, 3, 1, 22), (5, 1, 2, 2, 0, 0), (5, 1, 1, 1, 0, 0), (5, 1, 1, 1, 0, 0), (5, 1, 2, 2, 1, 22), (5, 1, 2, 2, 1, 22), (5, 1, 3, 3, 1, 22), (5, 1, 2, 3, 1, 21), (5, 1, 2, 2, 2, 43), (5, 1, 3, 3, 0, 0), (5, 1, 3, 3, 1, 22), (5, 1, 2, 5, 1, 21), (5, 1, 3, 4, 0, 0), (5, 1, 3, 4, 0, 0), (5, 1, 2, 2, 1, 23), (5, 1, 2, 4, 3, 67)]
def jv_i4 : List (Nat × Nat × Nat × Nat × Nat × Nat) := [(5, 1, 1, 2, 4, 90), (5, 1, 3, 7, 2, 46), (5, 1, 2, 2, 3, 72), (5, 1, 3, 4, 1, 23), (5, 0, 1, 1, 0, 0), (5, 1, 1, 3, 4, 93), (5, 1, 1, 3, 4, 93), (5, 1, 2, 6, 4, 93), (5, 1, 2, 3, 5, 118), (5, 1, 3, 3, 1, 21), (5, 1, 2, 4, 2, 43), (5, 1, 2, 4, 4, 93), (5, 1, 2, 4, 4, 93), (5, 1, 2, 6, 1, 23), (5, 1, 2, 4, 1, 23), (5, 1, 2, 4, 1, 23)]
def jv_i5 : List (Nat × Nat × Nat × Nat × Nat × Nat) := [(5, 1, 2, 4, 4, 93), (5, 1, 1, 3, 2, 46), (5, 1, 1, 3, 1, 21), (5, 1, 3, 4, 1, 23), (5, 1, 3, 4, 2, 46), (5, 1, 4, 5, 2, 46), (5, 1, 3, 5, 4, 93), (5, 1, 3, 4, 5, 115), (5, 1, 4, 8, 4, 93), (5, 1, 4, 4, 3, 69), (5, 1, 3, 3, 4, 93), (5, 1, 3, 4, 3, 67), (5, 1, 4, 8, 4, 93), (5, 1, 4, 6, 4, 93), (5, 1, 4, 4, 3, 70), (5, 1, 1, 5, 5, 120)]
def jv_i6 : List (Nat × Nat × Nat × Nat × Nat × Nat) := [(5, 1, 2, 6, 5, 115), (5, 1, 2, 6, 5, 120), (5, 1, 1, 7, 5, 120), (5, 1, 3, 3, 5, 115), (5, 1, 2, 3, 4, 93), (6, 2, 1, 1, 1, 20), (6, 1, 1, 1, 0, 0), (6, 1, 2, 2, 0, 0), (6, 1, 2, 2, 0, 0), (6, 1, 3, 3, 0, 0), (6, 1, 2, 2, 0, 0), (7, 2, 1, 2, 4, 82), (7, 1, 6, 6, 2, 43), (7, 1, 2, 2, 1, 22), (7, 1, 1, 3, 12, 246), (7, 1, 1, 1, 0, 0)]
def jv_i7 : List (Nat × Nat × Nat × Nat × Nat × Nat) := [(7, 1, 6, 7, 10, 202), (7, 1, 4, 7, 3, 67), (7, 1, 2, 3, 3, 67), (7, 1, 4, 6, 5, 120), (7, 1, 3, 5, 5, 115), (7, 1, 4, 6, 5, 120), (7, 1, 1, 3, 7, 167), (7, 1, 2, 4, 5, 111), (7, 1, 2, 2, 2, 44), (7, 1, 2, 2, 3, 65), (7, 1, 1, 1, 3, 65), (7, 1, 2, 2, 5, 115), (7, 1, 3, 4, 5, 118), (7, 1, 3, 4, 2, 43), (7, 1, 2, 2, 2, 43), (7, 1, 3, 3, 5, 116)]
def jv_i8 : List (Nat × Nat × Nat × Nat × Nat × Nat) := [(7, 1, 3, 3, 5, 116), (7, 1, 2, 2, 6, 140), (7, 1, 4, 4, 5, 120), (7, 1, 3, 3, 5, 115), (7, 1, 3, 3, 3, 72), (7, 1, 4, 4, 6, 138), (7, 1, 3, 4, 5, 120), (7, 1, 2, 2, 6, 140), (7, 1, 2, 2, 6, 145), (7, 1, 1, 1, 6, 144), (7, 1, 2, 3, 7, 167), (7, 1, 2, 2, 2, 45), (7, 1, 3, 3, 3, 67), (7, 1, 1, 2, 1, 20), (7, 1, 1, 1, 5, 115), (7, 1, 1, 1, 0, 0)]
def jv_i9 : List (Nat × Nat × Nat × Nat × Nat × Nat) := [(7, 1, 2, 2, 6, 137), (7, 1, 1, 1, 10, 210), (7, 1, 2, 2, 10, 210), (7, 0, 3, 3, 0, 0), (7, 0, 1, 1, 0, 0), (7, 1, 3, 3, 2, 43), (7, 1, 1, 2, 6, 146), (8, 2, 1, 1, 1, 20), (8, 0, 3, 3, 0, 0), (8, 0, 4, 5, 0, 0), (8, 1, 1, 1, 1, 24), (8, 0, 2, 2, 0, 0), (8, 1, 2, 2, 1, 22), (8, 1, 2, 2, 1, 22), (8, 1, 3, 3, 2, 43), (8, 0, 1, 1, 1, 22)]
def jv_i10 : List (Nat × Nat × Nat × Nat × Nat × Nat) := [(8, 0, 1, 1, 0, 0), (8, 0, 1, 1, 0, 0), (8, 0, 1, 1, 0, 0), (8, 0, 1, 1, 0, 0), (8, 0, 1, 1, 0, 0), (8, 0, 2, 3, 1, 21), (8, 0, 3, 3, 1, 20), (8, 0, 3, 3, 2, 42), (8, 0, 3, 6, 1, 21), (8, 0, 3, 5, 2, 46), (8, 0, 2, 2, 3, 70), (8, 0, 1, 3, 4, 91), (8, 0, 1, 3, 4, 91), (8, 0, 3, 4, 1, 21), (8, 0, 4, 5, 1, 21), (8, 0, 4, 6, 4, 91)]
def jv_i11 : List (Nat × Nat × Nat × Nat × Nat × Nat) := [(8, 0, 4, 4, 5, 116), (8, 0, 3, 3, 4, 91), (8, 0, 5, 7, 4, 91), (8, 0, 4, 4, 5, 117), (8, 0, 4, 4, 5, 117), (8, 0, 3, 5, 5, 113), (8, 0, 1, 6, 6, 139), (8, 0, 1, 3, 7, 164), (8, 1, 6, 8, 0, 0), (8, 1, 2, 2, 0, 0), (8, 1, 1, 1, 0, 0), (8, 1, 2, 2, 0, 0), (8, 1, 2, 2, 0, 0), (8, 1, 1, 1, 2, 41), (8, 1, 1, 1, 1, 21), (8, 1, 1, 1, 1, 21)]
def jv_i12 : List (Nat × Nat × Nat × Nat × Nat × Nat) := [(8, 1, 2, 2, 0, 0), (8, 0, 1, 1, 0, 0), (8, 1, 2, 2, 3, 61), (8, 1, 3, 4, 4, 82), (8, 1, 2, 2, 3, 61), (8, 1, 1, 2, 5, 105), (8, 0, 1, 1, 1, 22), (8, 0, 1, 3, 0, 0), (8, 0, 2, 4, 1, 22), (8, 0, 3, 5, 1, 21), (8, 1, 1, 4, 6, 126), (8, 1, 1, 2, 7, 149), (8, 1, 4, 5, 0, 0), (8, 1, 1, 2, 1, 24), (8, 0, 1, 1, 0, 0), (8, 1, 1, 4, 2, 42)]
def jv_i13 : List (Nat × Nat × Nat × Nat × Nat × Nat) := [(8, 1, 6, 8, 3, 65), (8, 0, 1, 1, 0, 0), (8, 1, 3, 3, 1, 22), (8, 1, 4, 5, 2, 45), (8, 0, 2, 4, 2, 42), (8, 1, 2, 3, 3, 65), (8, 1, 4, 6, 6, 139), (8, 1, 3, 6, 5, 113), (8, 1, 4, 6, 6, 140), (8, 1, 1, 3, 8, 186), (8, 1, 2, 3, 1, 24), (8, 1, 1, 2, 2, 46), (8, 1, 2, 4, 3, 67), (8, 1, 2, 2, 1, 24), (8, 1, 2, 2, 2, 45), (8, 1, 1, 1, 1, 24)]
def jv_i14 : List (Nat × Nat × Nat × Nat × Nat × Nat) := [(8, 1, 1, 3, 1, 21), (8, 1, 2, 4, 1, 21), (8, 1, 1, 3, 2, 44), (8, 1, 2, 2, 5, 113), (8, 1, 2, 6, 4, 91), (8, 1, 3, 4, 5, 116), (8, 1, 3, 4, 2, 45), (8, 1, 2, 2, 2, 43), (8, 1, 3, 3, 1, 21), (8, 1, 3, 5, 2, 43), (8, 1, 2, 6, 3, 67), (8, 1, 3, 8, 4, 92), (8, 1, 2, 4, 3, 67), (8, 1, 2, 4, 4, 91), (8, 1, 3, 3, 5, 114), (8, 1, 2, 3, 5, 116)]
def jv_i15 : List (Nat × Nat × Nat × Nat × Nat × Nat) := [(8, 1, 4, 4, 6, 139), (8, 1, 3, 3, 5, 113), (8, 1, 3, 3, 3, 70), (8, 1, 4, 4, 6, 137), (8, 1, 3, 4, 6, 139), (8, 1, 2, 4, 5, 113), (8, 1, 2, 6, 6, 139), (8, 1, 1, 5, 6, 140), (8, 1, 2, 3, 8, 186), (8, 1, 2, 2, 3, 65), (8, 1, 3, 3, 1, 22), (8, 1, 1, 1, 0, 0), (8, 1, 1, 1, 5, 113), (8, 1, 2, 2, 0, 0), (8, 1, 2, 2, 0, 0), (8, 1, 1, 3, 5, 113)]
def jv_i16 : List (Nat × Nat × Nat × Nat × Nat × Nat) := [(8, 1, 2, 3, 4, 91), (8, 1, 1, 1, 6, 135), (8, 1, 2, 2, 6, 135), (8, 1, 2, 2, 1, 21), (8, 1, 2, 2, 2, 42), (8, 1, 2, 3, 2, 45), (8, 1, 3, 3, 3, 67), (8, 1, 3, 3, 3, 67), (8, 1, 2, 2, 4, 89), (8, 1, 2, 2, 3, 67), (8, 1, 1, 2, 5, 110), (8, 1, 1, 1, 6, 131), (8, 1, 2, 2, 6, 131), (9, 0, 2, 3, 0, 0), (9, 0, 1, 1, 0, 0), (10, 0, 1, 8, 13, 268)]
def jv_infs : List (List (Nat × Nat × Nat × Nat × Nat × Nat)) := [jv_i0, jv_i1, jv_i2, jv_i3, jv_i4, jv_i5, jv_i6, jv_i7, jv_i8, jv_i9, jv_i10, jv_i11, jv_i12, jv_i13, jv_i14, jv_i15, jv_i16]
def jv_inf (y : Nat) : Option (Nat × Nat × Nat × Nat × Nat × Nat) := match jv_nth jv_infs (y / 16) with
  | none => none
  | some a => jv_nth a (y % 16)
abbrev jv_N : Nat := 272
def jv_y0 : List (MethodName × ByteArray × Option FieldType) := [(yX0_init, cX0_init, none), (yX0_clear, cX0_clear, none), (yX0_copyFrom, cX0_copyFrom, none), (yX0_indexOf, cX0_indexOf, (some .int)), (yX0_put, cX0_put, none), (yX0_add, cX0_add, none), (yX0_part, cX0_part, (some .int)), (yX1_init, cX1_init, none), (yX1_forget, cX1_forget, none), (yX1_trainAt, cX1_trainAt, (some (.object "SeatSwap$Train"))), (yX1_remember, cX1_remember, none), (yX1_bringBack, cX1_bringBack, none), (yX2_init, cX2_init, none), (yX2_kindOf, cX2_kindOf, (some .int)), (yX2_begin, cX2_begin, none), (yX2_nextToken, cX2_nextToken, none)]
def jv_y1 : List (MethodName × ByteArray × Option FieldType) := [(yX2_isSign, cX2_isSign, (some .boolean)), (yX2_isWord, cX2_isWord, (some .boolean)), (yX2_isKeyword, cX2_isKeyword, (some .boolean)), (yX2_isName, cX2_isName, (some .boolean)), (yX2_packedName, cX2_packedName, (some .int)), (yX2_number, cX2_number, (some .int)), (yX2_pass, cX2_pass, none), (yX2_take, cX2_take, none), (yX2_takeIfThere, cX2_takeIfThere, (some .boolean)), (yX2_takeInt, cX2_takeInt, (some .int)), (yX2_takeLike, cX2_takeLike, (some .int)), (yX2_takeFreeSeat, cX2_takeFreeSeat, (some .int)), (yX2_takeName, cX2_takeName, (some .int)), (yX2_tapeIsName, cX2_tapeIsName, (some .boolean)), (yX2_nameOnTape, cX2_nameOnTape, (some .int)), (yX2_readSetup, cX2_readSetup, (some .boolean))]
def jv_y2 : List (MethodName × ByteArray × Option FieldType) := [(yX2_readTraveller, cX2_readTraveller, none), (yX3_init, cX3_init, none), (yX3_write, cX3_write, none), (yX3_putTraveller, cX3_putTraveller, none), (yX3_putPart, cX3_putPart, none), (yX3_putLike, cX3_putLike, none), (yX3_putNumber, cX3_putNumber, none), (yX3_putText, cX3_putText, none), (yX3_put, cX3_put, none), (yX4_init, cX4_init, none), (yX4_hasRoom, cX4_hasRoom, (some .boolean)), (yX4_putFour, cX4_putFour, none), (yX4_put, cX4_put, none), (yX4_byteAt, cX4_byteAt, (some .int)), (yX5_init, cX5_init, none), (yX5_clear, cX5_clear, none)]
def jv_y3 : List (MethodName × ByteArray × Option FieldType) := [(yX5_copyFrom, cX5_copyFrom, none), (yX5_traveller, cX5_traveller, (some (.object "SeatSwap$Traveller"))), (yX5_seats, cX5_seats, (some .int)), (yX5_tables, cX5_tables, (some .int)), (yX5_isSeat, cX5_isSeat, (some .boolean)), (yX5_isTraveller, cX5_isTraveller, (some .boolean)), (yX5_isInRange, cX5_isInRange, (some .boolean)), (yX5_whoHas, cX5_whoHas, (some .int)), (yX5_isFree, cX5_isFree, (some .boolean)), (yX5_allows, cX5_allows, (some .boolean)), (yX5_maySit, cX5_maySit, (some .boolean)), (yX5_barredBy, cX5_barredBy, (some .int)), (yX5_membersAt, cX5_membersAt, (some .int)), (yX5_countAtTable, cX5_countAtTable, none), (yX5_admit, cX5_admit, none), (yX5_letOff, cX5_letOff, none)]
def jv_y4 : List (MethodName × ByteArray × Option FieldType) := [(yX5_goOn, cX5_goOn, none), (yX5_joyIn, cX5_joyIn, (some .int)), (yX5_joyOf, cX5_joyOf, (some .int)), (yX5_relativesAt, cX5_relativesAt, (some .int)), (yX5_looksForward, cX5_looksForward, (some .boolean)), (yX5_sumOfJoys, cX5_sumOfJoys, (some .int)), (yX5_grumblers, cX5_grumblers, (some .int)), (yX5_placeOf, cX5_placeOf, (some .int)), (yX5_whoIsAtPlace, cX5_whoIsAtPlace, (some .int)), (yX5_isAt, cX5_isAt, (some .boolean)), (yX5_travellersAt, cX5_travellersAt, (some .int)), (yX5_grumblersAt, cX5_grumblersAt, (some .int)), (yX5_sumOfJoysAt, cX5_sumOfJoysAt, (some .int)), (yX5_greatestFamilyAt, cX5_greatestFamilyAt, (some .int)), (yX5_membersOf, cX5_membersOf, (some .int)), (yX5_tablesOf, cX5_tablesOf, (some .int))]
def jv_y5 : List (MethodName × ByteArray × Option FieldType) := [(yX5_sumOfJoysOf, cX5_sumOfJoysOf, (some .int)), (yX5_families, cX5_families, (some .int)), (yX5_sumOfSweets, cX5_sumOfSweets, (some .int)), (yX5_sitDown, cX5_sitDown, none), (yX5_exchangeSeats, cX5_exchangeSeats, none), (yX5_passSeats, cX5_passSeats, none), (yX5_riseBySwap, cX5_riseBySwap, (some .int)), (yX5_sumIfSwapped, cX5_sumIfSwapped, (some .int)), (yX5_swapReason, cX5_swapReason, (some .int)), (yX5_doSwap, cX5_doSwap, none), (yX5_moveReason, cX5_moveReason, (some .int)), (yX5_doMove, cX5_doMove, none), (yX5_ringReason, cX5_ringReason, (some .int)), (yX5_riseByRing, cX5_riseByRing, (some .int)), (yX5_doRing, cX5_doRing, none), (yX5_risingRings, cX5_risingRings, (some .int))]
def jv_y6 : List (MethodName × ByteArray × Option FieldType) := [(yX5_bestSeatFor, cX5_bestSeatFor, (some .int)), (yX5_partnerFor, cX5_partnerFor, (some .int)), (yX5_settleOnce, cX5_settleOnce, (some .boolean)), (yX5_planSign, cX5_planSign, (some .int)), (yX5_seatSign, cX5_seatSign, (some .int)), (yX6_init, cX6_init, none), (yX6_clear, cX6_clear, none), (yX6_copyFrom, cX6_copyFrom, none), (yX6_settable, cX6_settable, (some .int)), (yX6_change, cX6_change, none), (yX6_letterAt, cX6_letterAt, (some .int)), (yX7_init, cX7_init, none), (yX7_append, cX7_append, (some .int)), (yX7_truncate, cX7_truncate, (some .int)), (yX7_load, cX7_load, (some .int)), (yX7_errorPosition, cX7_errorPosition, (some .int))]
def jv_y7 : List (MethodName × ByteArray × Option FieldType) := [(yX7_come, cX7_come, (some .int)), (yX7_set, cX7_set, (some .int)), (yX7_first, cX7_first, (some .int)), (yX7_swap, cX7_swap, (some .int)), (yX7_move, cX7_move, (some .int)), (yX7_ring, cX7_ring, (some .int)), (yX7_settle, cX7_settle, (some .int)), (yX7_station, cX7_station, (some .int)), (yX7_keep, cX7_keep, (some .int)), (yX7_restore, cX7_restore, (some .int)), (yX7_undo, cX7_undo, (some .int)), (yX7_value, cX7_value, (some .int)), (yX7_of, cX7_of, (some .int)), (yX7_letter, cX7_letter, (some .int)), (yX7_at, cX7_at, (some .int)), (yX7_table, cX7_table, (some .int))]
def jv_y8 : List (MethodName × ByteArray × Option FieldType) := [(yX7_family, cX7_family, (some .int)), (yX7_ranked, cX7_ranked, (some .int)), (yX7_why, cX7_why, (some .int)), (yX7_whyMove, cX7_whyMove, (some .int)), (yX7_joyAt, cX7_joyAt, (some .int)), (yX7_ifSwapped, cX7_ifSwapped, (some .int)), (yX7_leastPrice, cX7_leastPrice, (some .int)), (yX7_bestSeat, cX7_bestSeat, (some .int)), (yX7_partner, cX7_partner, (some .int)), (yX7_rings, cX7_rings, (some .int)), (yX7_ifSettled, cX7_ifSettled, (some .int)), (yX7_ifFirst, cX7_ifFirst, (some .int)), (yX7_log, cX7_log, (some .int)), (yX7_full, cX7_full, (some .float)), (yX7_meanJoy, cX7_meanJoy, (some .double)), (yX7_planLength, cX7_planLength, (some .int))]
def jv_y9 : List (MethodName × ByteArray × Option FieldType) := [(yX7_planByte, cX7_planByte, (some .int)), (yX7_setupLength, cX7_setupLength, (some .int)), (yX7_setupByte, cX7_setupByte, (some .int)), (yX7_isIn, cX7_isIn, (some .boolean)), (yX7_refusal, cX7_refusal, (some .int)), (yX7_arePair, cX7_arePair, (some .boolean)), (yX7_settleDraft, cX7_settleDraft, (some .int)), (yX8_init, cX8_init, none), (yX8_in, cX8_in, (some .boolean)), (yX8_layRow, cX8_layRow, none), (yX8_takesSpare, cX8_takesSpare, none), (yX8_numberAt, cX8_numberAt, (some .int)), (yX8_isTraveller, cX8_isTraveller, (some .boolean)), (yX8_isSeat, cX8_isSeat, (some .boolean)), (yX8_isPair, cX8_isPair, (some .boolean)), (yX8_isPaid, cX8_isPaid, (some .boolean))]
def jv_y10 : List (MethodName × ByteArray × Option FieldType) := [(yX8_rowOf, cX8_rowOf, (some .int)), (yX8_tableOf, cX8_tableOf, (some .int)), (yX8_isWindow, cX8_isWindow, (some .boolean)), (yX8_isForward, cX8_isForward, (some .boolean)), (yX8_tablesOf, cX8_tablesOf, (some .int)), (yX8_whoHas, cX8_whoHas, (some .int)), (yX8_mayUse, cX8_mayUse, (some .boolean)), (yX8_maySit, cX8_maySit, (some .boolean)), (yX8_kinAt, cX8_kinAt, (some .int)), (yX8_joyIn, cX8_joyIn, (some .int)), (yX8_joyOf, cX8_joyOf, (some .int)), (yX8_joyAll, cX8_joyAll, (some .int)), (yX8_grumblers, cX8_grumblers, (some .int)), (yX8_exchanges, cX8_exchanges, none), (yX8_turns, cX8_turns, none), (yX8_riseBySwap, cX8_riseBySwap, (some .int))]
def jv_y11 : List (MethodName × ByteArray × Option FieldType) := [(yX8_whySwapped, cX8_whySwapped, (some .int)), (yX8_whyMoved, cX8_whyMoved, (some .int)), (yX8_riseByRing, cX8_riseByRing, (some .int)), (yX8_whyRing, cX8_whyRing, (some .int)), (yX8_riseOfRing, cX8_riseOfRing, (some .int)), (yX8_riseOfAll, cX8_riseOfAll, (some .int)), (yX8_bestSwap, cX8_bestSwap, (some .int)), (yX8_settles, cX8_settles, (some .int)), (yX8_append, cX8_append, (some .int)), (yX8_truncate, cX8_truncate, (some .int)), (yX8_errorPosition, cX8_errorPosition, (some .int)), (yX8_isSmall, cX8_isSmall, (some .boolean)), (yX8_isDigit, cX8_isDigit, (some .boolean)), (yX8_next, cX8_next, none), (yX8_nextWord, cX8_nextWord, none), (yX8_nextNumber, cX8_nextNumber, none)]
def jv_y12 : List (MethodName × ByteArray × Option FieldType) := [(yX8_is, cX8_is, (some .boolean)), (yX8_isKeyword, cX8_isKeyword, (some .boolean)), (yX8_takes, cX8_takes, (some .boolean)), (yX8_takesNumber, cX8_takesNumber, (some .int)), (yX8_takesWord, cX8_takesWord, (some .boolean)), (yX8_takesLike, cX8_takesLike, (some .int)), (yX8_isName, cX8_isName, (some .boolean)), (yX8_nameSize, cX8_nameSize, (some .int)), (yX8_letterOf, cX8_letterOf, (some .int)), (yX8_starts, cX8_starts, none), (yX8_readSeat, cX8_readSeat, none), (yX8_load, cX8_load, (some .int)), (yX8_tells, cX8_tells, none), (yX8_keepForUndo, cX8_keepForUndo, none), (yX8_refused, cX8_refused, (some .int)), (yX8_tapeName, cX8_tapeName, (some .int))]
def jv_y13 : List (MethodName × ByteArray × Option FieldType) := [(yX8_come, cX8_come, (some .int)), (yX8_fieldOf, cX8_fieldOf, (some .int)), (yX8_isNumber, cX8_isNumber, (some .boolean)), (yX8_set, cX8_set, (some .int)), (yX8_barredBy, cX8_barredBy, (some .int)), (yX8_first, cX8_first, (some .int)), (yX8_swap, cX8_swap, (some .int)), (yX8_move, cX8_move, (some .int)), (yX8_ring, cX8_ring, (some .int)), (yX8_settle, cX8_settle, (some .int)), (yX8_getsOff, cX8_getsOff, none), (yX8_stops, cX8_stops, none), (yX8_station, cX8_station, (some .int)), (yX8_keep, cX8_keep, (some .int)), (yX8_restore, cX8_restore, (some .int)), (yX8_undo, cX8_undo, (some .int))]
def jv_y14 : List (MethodName × ByteArray × Option FieldType) := [(yX8_sweetsAll, cX8_sweetsAll, (some .int)), (yX8_membersOf, cX8_membersOf, (some .int)), (yX8_familiesAll, cX8_familiesAll, (some .int)), (yX8_value, cX8_value, (some .int)), (yX8_rankOf, cX8_rankOf, (some .int)), (yX8_of, cX8_of, (some .int)), (yX8_letter, cX8_letter, (some .int)), (yX8_at, cX8_at, (some .int)), (yX8_isAtTable, cX8_isAtTable, (some .boolean)), (yX8_membersAt, cX8_membersAt, (some .int)), (yX8_familyAt, cX8_familyAt, (some .int)), (yX8_table, cX8_table, (some .int)), (yX8_tablesOfFamily, cX8_tablesOfFamily, (some .int)), (yX8_joyOfFamily, cX8_joyOfFamily, (some .int)), (yX8_family, cX8_family, (some .int)), (yX8_ranked, cX8_ranked, (some .int))]
def jv_y15 : List (MethodName × ByteArray × Option FieldType) := [(yX8_why, cX8_why, (some .int)), (yX8_whyMove, cX8_whyMove, (some .int)), (yX8_joyAt, cX8_joyAt, (some .int)), (yX8_ifSwapped, cX8_ifSwapped, (some .int)), (yX8_leastPrice, cX8_leastPrice, (some .int)), (yX8_bestSeat, cX8_bestSeat, (some .int)), (yX8_partner, cX8_partner, (some .int)), (yX8_rings, cX8_rings, (some .int)), (yX8_ifSettled, cX8_ifSettled, (some .int)), (yX8_ifFirst, cX8_ifFirst, (some .int)), (yX8_log, cX8_log, (some .int)), (yX8_full, cX8_full, (some .float)), (yX8_meanJoy, cX8_meanJoy, (some .double)), (yX8_puts, cX8_puts, none), (yX8_writtenAt, cX8_writtenAt, (some .int)), (yX8_layPlan, cX8_layPlan, none)]
def jv_y16 : List (MethodName × ByteArray × Option FieldType) := [(yX8_putsSeat, cX8_putsSeat, none), (yX8_planLength, cX8_planLength, (some .int)), (yX8_planByte, cX8_planByte, (some .int)), (yX8_putsNumber, cX8_putsNumber, none), (yX8_putsNext, cX8_putsNext, none), (yX8_putsWord, cX8_putsWord, none), (yX8_putsPart, cX8_putsPart, none), (yX8_putsLike, cX8_putsLike, none), (yX8_putsTraveller, cX8_putsTraveller, none), (yX8_putsSweets, cX8_putsSweets, none), (yX8_laySetup, cX8_laySetup, none), (yX8_setupLength, cX8_setupLength, (some .int)), (yX8_setupByte, cX8_setupByte, (some .int)), (yJ9_floorMod_7cf53, cJ9_floorMod_7cf53, (some .int)), (yJ9_abs_0f7a4, cJ9_abs_0f7a4, (some .int)), (⟨RL, "law", "([I)Z"⟩, cL_law, some .boolean)]
def jv_ys : List (List (MethodName × ByteArray × Option FieldType)) := [jv_y0, jv_y1, jv_y2, jv_y3, jv_y4, jv_y5, jv_y6, jv_y7, jv_y8, jv_y9, jv_y10, jv_y11, jv_y12, jv_y13, jv_y14, jv_y15, jv_y16]
def jv_ym (y : Nat) : MethodName × ByteArray × Option FieldType := match jv_nth jv_ys (y / 16) with
  | none => (⟨RL, "law", "([I)Z"⟩, cL_law, none)
  | some a => (jv_nth a (y % 16)).getD (⟨RL, "law", "([I)Z"⟩, cL_law, none)
def jv_own (k : Nat) : String := ([RX0, RX1, RX2, RX3, RX4, RX5, RX6, RX7, RX8, RJ9, RL] : List String).getD k RL
def jv_fld0 : List (Nat × Nat × Nat) := [(11, (0, 0)), (15, (0, 1)), (19, (0, 2))]
def jv_fld1 : List (Nat × Nat × Nat) := [(11, (1, 0)), (16, (1, 2)), (20, (1, 1))]
def jv_fld2 : List (Nat × Nat × Nat) := [(12, (2, 0)), (21, (2, 1)), (25, (2, 5)), (29, (2, 3)), (36, (2, 2)), (39, (4, 1)), (49, (2, 4)), (129, (5, 4)), (132, (5, 5)), (143, (6, 1)), (148, (6, 0)), (154, (6, 2)), (156, (6, 3)), (161, (6, 4)), (163, (6, 5)), (165, (6, 6)), (167, (6, 7)), (170, (6, 8)), (172, (6, 9))]
def jv_fld3 : List (Nat × Nat × Nat) := [(9, (3, 0)), (15, (3, 1)), (18, (3, 2)), (27, (5, 4)), (38, (5, 5)), (44, (5, 7)), (57, (6, 1)), (66, (6, 2)), (73, (6, 3)), (82, (6, 4)), (91, (6, 5)), (94, (6, 6)), (97, (6, 7)), (104, (6, 8)), (109, (6, 9))]
def jv_fld4 : List (Nat × Nat × Nat) := [(9, (4, 0)), (13, (4, 1))]
def jv_fld5 : List (Nat × Nat × Nat) := [(11, (5, 0)), (18, (5, 1)), (22, (5, 2)), (29, (5, 3)), (33, (5, 4)), (37, (5, 5)), (43, (5, 6)), (46, (5, 7)), (49, (5, 8)), (52, (5, 9)), (55, (5, 10)), (58, (5, 11)), (61, (5, 12)), (83, (6, 1)), (90, (6, 2)), (97, (6, 3)), (108, (6, 9)), (119, (6, 7)), (122, (6, 6)), (130, (6, 4)), (137, (6, 5)), (159, (6, 8))]
def jv_fld6 : List (Nat × Nat × Nat) := [(9, (6, 0)), (15, (6, 1)), (18, (6, 2)), (21, (6, 3)), (24, (6, 4)), (27, (6, 5)), (30, (6, 6)), (33, (6, 7)), (36, (6, 8)), (39, (6, 9))]
def jv_fld7 : List (Nat × Nat × Nat) := [(10, (7, 1)), (16, (2, 0)), (20, (7, 0)), (24, (7, 2)), (31, (7, 3)), (35, (7, 4)), (41, (7, 5)), (45, (7, 6)), (49, (7, 7)), (56, (7, 8)), (60, (7, 9)), (74, (4, 1)), (85, (2, 2)), (95, (5, 7)), (122, (6, 0)), (125, (6, 1)), (128, (6, 2)), (131, (6, 3)), (134, (6, 8)), (137, (6, 9)), (144, (5, 3)), (172, (5, 4)), (175, (5, 5)), (225, (5, 8)), (228, (5, 6)), (234, (1, 2)), (247, (5, 9)), (250, (5, 10)), (253, (5, 11)), (256, (5, 12)), (265, (0, 2)), (268, (6, 4)), (271, (6, 5)), (274, (6, 6)), (277, (6, 7)), (342, (3, 0)), (343, (3, 2))]
def jv_fld8 : List (Nat × Nat × Nat) := [(7, (8, 0)), (13, (8, 1)), (16, (8, 2)), (19, (8, 3)), (22, (8, 4)), (25, (8, 5)), (29, (8, 7)), (32, (8, 9)), (36, (8, 16)), (121, (8, 8)), (124, (8, 11)), (127, (8, 12)), (130, (8, 14)), (133, (8, 13)), (148, (8, 15)), (196, (8, 6)), (289, (8, 17))]
def jv_fld9 : List (Nat × Nat × Nat) := []
def jv_fld10 : List (Nat × Nat × Nat) := []
def jv_flds : List (List (Nat × Nat × Nat)) := [jv_fld0, jv_fld1, jv_fld2, jv_fld3, jv_fld4, jv_fld5, jv_fld6, jv_fld7, jv_fld8, jv_fld9, jv_fld10]
def jv_fld (ow i : Nat) : Option (Nat × Nat) := match jv_nth jv_flds ow with
  | none => none
  | some a => jv_as a i
def jv_cal0 : List (Nat × Nat × Nat × Nat) := [(3, (900, 1, 0)), (22, (269, 2, 0)), (28, (3, 3, 0)), (31, (4, 3, 0))]
def jv_cal1 : List (Nat × Nat × Nat × Nat) := [(1, (900, 1, 0)), (15, (46, 1, 0)), (23, (269, 2, 0)), (29, (9, 2, 0)), (33, (48, 2, 0))]
def jv_cal2 : List (Nat × Nat × Nat × Nat) := [(3, (900, 1, 0)), (11, (41, 1, 0)), (20, (101, 1, 1)), (33, (15, 1, 0)), (42, (45, 2, 0)), (46, (13, 1, 0)), (52, (901, 1, 0)), (57, (902, 2, 0)), (63, (17, 2, 0)), (85, (18, 1, 0)), (89, (22, 2, 0)), (93, (21, 1, 0)), (96, (16, 2, 0)), (100, (25, 3, 0)), (104, (56, 2, 0)), (110, (50, 1, 0)), (113, (20, 1, 0)), (116, (19, 1, 0)), (119, (14, 1, 0)), (122, (47, 1, 0)), (125, (23, 2, 0)), (134, (32, 2, 0)), (138, (102, 1, 0)), (139, (27, 2, 0)), (145, (28, 1, 0)), (151, (24, 2, 0)), (158, (26, 1, 0)), (174, (57, 3, 0)), (178, (62, 2, 0))]
def jv_cal3 : List (Nat × Nat × Nat × Nat) := [(3, (900, 1, 0)), (23, (39, 2, 0)), (32, (38, 2, 0)), (41, (40, 2, 0)), (47, (49, 2, 0)), (51, (35, 2, 0)), (62, (106, 2, 0)), (76, (36, 4, 0)), (85, (37, 3, 0)), (112, (270, 1, 0)), (118, (901, 1, 0)), (123, (902, 2, 0))]
def jv_cal4 : List (Nat × Nat × Nat × Nat) := [(1, (900, 1, 0)), (17, (44, 2, 0))]
def jv_cal5 : List (Nat × Nat × Nat × Nat) := [(3, (900, 1, 0)), (17, (101, 1, 1)), (28, (0, 1, 0)), (40, (1, 1, 0)), (64, (49, 2, 0)), (68, (103, 2, 0)), (72, (2, 2, 0)), (75, (50, 1, 0)), (79, (147, 3, 1)), (86, (55, 2, 0)), (93, (57, 3, 0)), (100, (61, 3, 0)), (104, (5, 4, 0)), (111, (63, 2, 0)), (115, (67, 3, 0)), (125, (270, 1, 0)), (133, (68, 1, 0)), (140, (65, 3, 0)), (144, (60, 3, 0)), (147, (66, 2, 0)), (150, (71, 2, 0)), (153, (73, 3, 0)), (156, (78, 2, 0)), (162, (83, 3, 0)), (166, (84, 3, 0)), (169, (69, 1, 0)), (172, (58, 3, 0)), (175, (56, 2, 0)), (178, (85, 4, 0)), (181, (92, 4, 0)), (185, (93, 4, 0)), (188, (90, 3, 0)), (191, (88, 4, 0)), (194, (86, 3, 0)), (197, (100, 2, 0)), (200, (106, 2, 0))]
def jv_cal6 : List (Nat × Nat × Nat × Nat) := [(3, (900, 1, 0))]
def jv_cal7 : List (Nat × Nat × Nat × Nat) := [(1, (900, 1, 0)), (9, (12, 1, 0)), (23, (33, 1, 1)), (30, (46, 1, 0)), (40, (101, 1, 1)), (55, (7, 1, 0)), (64, (42, 1, 0)), (70, (43, 2, 0)), (77, (147, 3, 0)), (81, (31, 2, 0)), (88, (48, 2, 0)), (92, (8, 1, 0)), (98, (52, 2, 0)), (102, (29, 1, 0)), (105, (56, 2, 0)), (108, (57, 3, 0)), (112, (10, 2, 0)), (115, (102, 1, 0)), (118, (30, 1, 0)), (140, (62, 2, 0)), (150, (5, 4, 0)), (154, (53, 2, 0)), (157, (54, 3, 0)), (160, (49, 2, 0)), (164, (104, 2, 0)), (168, (105, 3, 0)), (178, (59, 2, 0)), (181, (149, 3, 0)), (184, (88, 4, 0)), (188, (148, 1, 0)), (191, (86, 3, 0)), (195, (89, 4, 0)), (198, (90, 3, 0)), (201, (65, 3, 0)), (204, (66, 2, 0)), (207, (91, 3, 0)), (210, (92, 4, 0)), (213, (93, 4, 0)), (216, (94, 4, 0)), (219, (150, 1, 0)), (222, (69, 1, 0)), (231, (64, 1, 0)), (235, (11, 2, 0)), (238, (50, 1, 0)), (241, (70, 1, 0)), (244, (82, 1, 0)), (259, (51, 1, 0)), (262, (81, 1, 0)), (280, (67, 3, 0)), (284, (71, 2, 0)), (287, (106, 2, 0)), (290, (55, 2, 0)), (293, (74, 2, 0)), (296, (75, 2, 0)), (299, (76, 2, 0)), (302, (77, 2, 0)), (305, (78, 2, 0)), (308, (79, 2, 0)), (311, (80, 2, 0)), (314, (72, 2, 0)), (317, (87, 3, 0)), (320, (96, 2, 0)), (323, (97, 2, 0)), (326, (95, 1, 0)), (329, (6, 3, 0)), (332, (143, 1, 0)), (335, (99, 3, 0)), (338, (34, 3, 0)), (346, (98, 1, 0))]
def jv_cal8 : List (Nat × Nat × Nat × Nat) := [(1, (900, 1, 0)), (42, (153, 4, 0)), (46, (152, 3, 0)), (50, (156, 2, 0)), (54, (155, 2, 0)), (58, (160, 1, 0)), (62, (166, 3, 0)), (65, (161, 1, 0)), (68, (168, 3, 0)), (72, (162, 1, 0)), (75, (163, 1, 0)), (78, (169, 3, 0)), (81, (170, 2, 0)), (85, (173, 3, 0)), (89, (167, 3, 0)), (93, (175, 4, 0)), (97, (165, 2, 0)), (100, (174, 4, 0)), (104, (178, 5, 0)), (108, (171, 1, 0)), (112, (176, 4, 0)), (115, (181, 3, 0)), (118, (182, 1, 0)), (136, (187, 2, 0)), (139, (190, 1, 0)), (142, (188, 2, 0)), (145, (191, 1, 0)), (152, (189, 1, 0)), (155, (194, 2, 0)), (159, (192, 2, 0)), (162, (195, 3, 0)), (165, (199, 1, 0)), (168, (193, 1, 0)), (171, (198, 1, 0)), (174, (201, 3, 0)), (178, (196, 2, 0)), (183, (197, 1, 0)), (193, (202, 1, 0)), (199, (207, 1, 0)), (202, (157, 2, 0)), (205, (205, 1, 0)), (208, (204, 4, 0)), (212, (210, 3, 0)), (216, (209, 1, 0)), (219, (212, 2, 0)), (222, (158, 3, 0)), (225, (159, 1, 0)), (228, (206, 1, 0)), (231, (177, 3, 0)), (234, (179, 4, 0)), (237, (180, 4, 0)), (240, (154, 1, 0)), (243, (183, 1, 0)), (246, (218, 2, 0)), (250, (219, 1, 0)), (253, (225, 2, 0)), (256, (172, 1, 0)), (259, (224, 1, 0)), (262, (164, 1, 0)), (265, (226, 1, 0)), (268, (228, 2, 0)), (271, (200, 2, 0)), (274, (232, 3, 0)), (277, (233, 3, 0)), (280, (234, 2, 0)), (283, (236, 2, 0)), (286, (237, 2, 0)), (292, (253, 2, 0)), (295, (256, 2, 0)), (298, (255, 1, 0)), (301, (254, 2, 0)), (304, (259, 2, 0)), (307, (261, 2, 0)), (310, (260, 2, 0)), (313, (262, 3, 0)), (317, (263, 3, 0)), (320, (265, 2, 0)), (323, (264, 2, 0)), (326, (266, 1, 0))]
def jv_cal9 : List (Nat × Nat × Nat × Nat) := []
def jv_cal10 : List (Nat × Nat × Nat × Nat) := [(9, (107, 1, 0)), (12, (151, 1, 0)), (13, (108, 6, 0)), (17, (184, 6, 0)), (18, (109, 2, 0)), (22, (185, 2, 0)), (23, (110, 1, 0)), (27, (203, 1, 0)), (28, (111, 1, 0)), (31, (186, 1, 0)), (32, (112, 6, 0)), (35, (208, 6, 0)), (36, (113, 4, 0)), (40, (211, 4, 0)), (41, (114, 2, 0)), (44, (213, 2, 0)), (45, (115, 4, 0)), (48, (214, 4, 0)), (49, (116, 3, 0)), (53, (215, 3, 0)), (54, (117, 4, 0)), (57, (216, 4, 0)), (58, (118, 1, 0)), (61, (217, 1, 0)), (62, (119, 2, 0)), (65, (220, 2, 0)), (66, (120, 2, 0)), (69, (221, 2, 0)), (70, (121, 2, 0)), (73, (222, 2, 0)), (74, (122, 1, 0)), (77, (223, 1, 0)), (78, (123, 2, 0)), (81, (227, 2, 0)), (82, (124, 3, 0)), (85, (229, 3, 0)), (86, (125, 3, 0)), (89, (230, 3, 0)), (90, (126, 2, 0)), (93, (231, 2, 0)), (94, (127, 3, 0)), (97, (235, 3, 0)), (98, (128, 3, 0)), (101, (238, 3, 0)), (102, (129, 2, 0)), (105, (239, 2, 0)), (106, (130, 4, 0)), (109, (240, 4, 0)), (110, (131, 3, 0)), (113, (241, 3, 0)), (114, (132, 3, 0)), (117, (242, 3, 0)), (118, (133, 4, 0)), (121, (243, 4, 0)), (122, (134, 3, 0)), (125, (244, 3, 0)), (126, (135, 2, 0)), (129, (245, 2, 0)), (130, (136, 2, 0)), (133, (246, 2, 0)), (134, (137, 1, 0)), (137, (247, 1, 0)), (138, (138, 2, 0)), (141, (248, 2, 0)), (142, (139, 2, 0)), (145, (249, 2, 0)), (146, (140, 3, 0)), (149, (250, 3, 0)), (150, (141, 1, 0)), (154, (251, 1, 0)), (155, (142, 1, 0)), (159, (252, 1, 0)), (160, (143, 1, 0)), (163, (257, 1, 0)), (164, (144, 2, 0)), (167, (258, 2, 0)), (168, (145, 1, 0)), (171, (267, 1, 0)), (172, (146, 2, 0)), (175, (268, 2, 0))]
def jv_cals : List (List (Nat × Nat × Nat × Nat)) := [jv_cal0, jv_cal1, jv_cal2, jv_cal3, jv_cal4, jv_cal5, jv_cal6, jv_cal7, jv_cal8, jv_cal9, jv_cal10]
def jv_cal (ow i : Nat) : Option (Nat × Nat × Nat) := match jv_nth jv_cals ow with
  | none => none
  | some a => jv_as a i
def jv_new0 : List (Nat × Nat) := []
def jv_new1 : List (Nat × Nat) := [(9, 5)]
def jv_new2 : List (Nat × Nat) := [(9, 4), (18, 6)]
def jv_new3 : List (Nat × Nat) := []
def jv_new4 : List (Nat × Nat) := []
def jv_new5 : List (Nat × Nat) := [(9, 6), (26, 0)]
def jv_new6 : List (Nat × Nat) := []
def jv_new7 : List (Nat × Nat) := [(7, 2), (21, 3), (28, 5), (38, 6), (53, 1)]
def jv_new8 : List (Nat × Nat) := []
def jv_new9 : List (Nat × Nat) := []
def jv_new10 : List (Nat × Nat) := [(7, 7), (10, 8)]
def jv_news : List (List (Nat × Nat)) := [jv_new0, jv_new1, jv_new2, jv_new3, jv_new4, jv_new5, jv_new6, jv_new7, jv_new8, jv_new9, jv_new10]
def jv_new (ow i : Nat) : Option (Nat) := match jv_nth jv_news ow with
  | none => none
  | some a => jv_as a i
def jv_ldc0 : List (Nat × Value) := []
def jv_ldc1 : List (Nat × Value) := []
def jv_ldc2 : List (Nat × Value) := [(61, .ref 1000001), (67, .ref 1000002), (69, .ref 1000003), (71, .ref 1000004), (73, .ref 1000005), (75, .ref 1000006), (77, .ref 1000007), (79, .ref 1000008), (81, .ref 1000009), (83, .ref 1000010)]
def jv_ldc3 : List (Nat × Value) := [(21, .ref 1000011), (36, .ref 1000012), (55, .ref 1000013), (69, .ref 1000014), (71, .ref 1000015), (80, .ref 1000016), (89, .ref 1000017), (100, .ref 1000018), (102, .ref 1000019), (107, .ref 1000020), (117, .int 100000)]
def jv_ldc4 : List (Nat × Value) := []
def jv_ldc5 : List (Nat × Value) := []
def jv_ldc6 : List (Nat × Value) := []
def jv_ldc7 : List (Nat × Value) := []
def jv_ldc8 : List (Nat × Value) := [(177, .int 291828332), (181, .int 86887672), (182, .int 335086736), (187, .int 692581), (188, .int 284954995), (189, .int 388978), (190, .int 10984100), (191, .int 3379448), (192, .int 377669)]
def jv_ldc9 : List (Nat × Value) := []
def jv_ldc10 : List (Nat × Value) := []
def jv_ldcs : List (List (Nat × Value)) := [jv_ldc0, jv_ldc1, jv_ldc2, jv_ldc3, jv_ldc4, jv_ldc5, jv_ldc6, jv_ldc7, jv_ldc8, jv_ldc9, jv_ldc10]
def jv_ldc (ow i : Nat) : Option (Value) := match jv_nth jv_ldcs ow with
  | none => none
  | some a => jv_as a i
/-- a field: what it holds, and whether it is final -/
def jv_fty (c k : Nat) : FieldType := match c with
  | 0 => tyX0 k
  | 1 => tyX1 k
  | 2 => tyX2 k
  | 3 => tyX3 k
  | 4 => tyX4 k
  | 5 => tyX5 k
  | 6 => tyX6 k
  | 7 => tyX7 k
  | _ => tyX8 k
def jv_fT (c : Nat) : u_T := match c with
  | 0 => TX0
  | 1 => TX1
  | 2 => TX2
  | 3 => TX3
  | 4 => TX4
  | 5 => TX5
  | 6 => TX6
  | 7 => TX7
  | _ => TX8
def jv_fn (c : Nat) : Nat := ([3, 3, 6, 3, 2, 13, 10, 10, 18] : List Nat).getD c 18
def jv_str : List (String × Nat × String) := [(RX2, 61, "train"), (RX2, 67, "first"), (RX2, 69, "seat"), (RX2, 71, "ticket"), (RX2, 73, "family"), (RX2, 75, "window"), (RX2, 77, "ahead"), (RX2, 79, "row"), (RX2, 81, "sweets"), (RX2, 83, "stop"), (RX3, 21, "train "), (RX3, 36, " first "), (RX3, 55, "seat "), (RX3, 69, " ticket"), (RX3, 71, " family "), (RX3, 80, " window "), (RX3, 89, " ahead "), (RX3, 100, " row "), (RX3, 102, " sweets "), (RX3, 107, " stop ")]
end
section
section
/-- the length of an instruction (switches apart) -/
def jv_len (i : Instr) : Nat := match i with
  | .bipush _ | .iload _ | .istore _ | .aload _ | .astore _ | .dload _ | .dstore _ | .ldc _ | .newarray _ => 2
  | .sipush _ | .iinc _ _ | .getfield _ | .putfield _ | .invokestatic _ | .invokevirtual _ | .invokespecial _ | .ifCond _ _ | .if_icmp _ _ | .goto _ | .new _ | .anewarray _ => 3
  | _ => 1
def jv_sw (i : Instr) : Bool := match i with
  | .tableswitch _ _ _ _ => true
  | .lookupswitch _ _ => true
  | _ => false
def jv_ck1 (b : ByteArray) (pc : Nat) : List jv_I → Bool
  | [] => true
  | none :: l => jv_ck1 b (pc + 1) l
  | some (i, len) :: l => decide (decode b pc = .ok (i, len)) && (jv_sw i || decide (len = jv_len i)) && jv_ck1 b (pc + 1) l
def jv_ck2 (b : ByteArray) (pc : Nat) : List (List jv_I) → Bool
  | [] => true
  | c :: l => decide (c.length ≤ 16) && jv_ck1 b pc c && jv_ck2 b (pc + 16) l
def jv_ck3 (y : Nat) : List (List (List jv_I)) → Bool
  | [] => true
  | c :: l => jv_ck2 (jv_ym y).2.1 0 c && jv_ck3 (y + 1) l
theorem jv_nil {α : Type} (n : Nat) : jv_nth ([] : List α) n = none := by cases n <;> rfl
theorem jv_ck1_of {b : ByteArray} {i : Instr} {len : Nat} : ∀ (l : List jv_I) (pc r : Nat), jv_ck1 b pc l = true → jv_nth l r = some (some (i, len)) → decode b (pc + r) = .ok (i, len) ∧ (jv_sw i = true ∨ len = jv_len i)
  | [], pc, r, _, h2 => by rw [jv_nil] at h2; cases h2
  | none :: l, pc, 0, h1, h2 => by cases h2
  | none :: l, pc, r + 1, h1, h2 => by
    have h3 := jv_ck1_of l (pc + 1) r h1 h2
    rw [show pc + (r + 1) = pc + 1 + r by omega]
    exact h3
  | some (j, len') :: l, pc, 0, h1, h2 => by
    simp only [jv_ck1, Bool.and_eq_true, decide_eq_true_eq, Bool.or_eq_true] at h1
    have h3 : some (some (j, len')) = some (some (i, len)) := h2
    cases h3
    exact ⟨h1.1.1, h1.1.2⟩
  | some (j, len') :: l, pc, r + 1, h1, h2 => by
    simp only [jv_ck1, Bool.and_eq_true] at h1
    have h3 := jv_ck1_of l (pc + 1) r h1.2 h2
    rw [show pc + (r + 1) = pc + 1 + r by omega]
    exact h3
theorem jv_ck2_of {b : ByteArray} {i : Instr} {len : Nat} {c : List jv_I} : ∀ (l : List (List jv_I)) (pc q r : Nat), jv_ck2 b pc l = true → jv_nth l q = some c → jv_nth c r = some (some (i, len)) → decode b (pc + 16 * q + r) = .ok (i, len) ∧ (jv_sw i = true ∨ len = jv_len i)
  | [], pc, q, r, _, h2, _ => by rw [jv_nil] at h2; cases h2
  | d :: l, pc, 0, r, h1, h2, h3 => by
    simp only [jv_ck2, Bool.and_eq_true] at h1
    have h4 : some d = some c := h2
    cases h4
    exact jv_ck1_of _ pc r h1.1.2 h3
  | d :: l, pc, q + 1, r, h1, h2, h3 => by
    simp only [jv_ck2, Bool.and_eq_true] at h1
    have h4 := jv_ck2_of l (pc + 16) q r h1.2 h2 h3
    rw [show pc + 16 * (q + 1) + r = pc + 16 + 16 * q + r by omega]
    exact h4
theorem jv_ck3_of {c : List (List jv_I)} : ∀ (l : List (List (List jv_I))) (y q : Nat), jv_ck3 y l = true → jv_nth l q = some c → jv_ck2 (jv_ym (y + q)).2.1 0 c = true
  | [], y, q, _, h2 => by rw [jv_nil] at h2; cases h2
  | d :: l, y, 0, h1, h2 => by
    simp only [jv_ck3, Bool.and_eq_true] at h1
    have h4 : some d = some c := h2
    cases h4
    exact h1.1
  | d :: l, y, q + 1, h1, h2 => by
    simp only [jv_ck3, Bool.and_eq_true] at h1
    rw [show y + (q + 1) = y + 1 + q by omega]
    exact jv_ck3_of l (y + 1) q h1.2 h2
def jv_ck4 (y : Nat) : List (List (List (List jv_I))) → Bool
  | [] => true
  | c :: l => jv_ck3 y c && jv_ck4 (y + 16) l
theorem jv_ck4_of {a : List (List (List jv_I))} : ∀ (l : List (List (List (List jv_I)))) (y q : Nat), jv_ck4 y l = true → jv_nth l q = some a → jv_ck3 (y + 16 * q) a = true
  | [], y, q, _, h2 => by rw [jv_nil] at h2; cases h2
  | d :: l, y, 0, h1, h2 => by
    simp only [jv_ck4, Bool.and_eq_true] at h1
    have h4 : some d = some a := h2
    cases h4
    exact h1.1
  | d :: l, y, q + 1, h1, h2 => by
    simp only [jv_ck4, Bool.and_eq_true] at h1
    rw [show y + 16 * (q + 1) = y + 16 + 16 * q by omega]
    exact jv_ck4_of l (y + 16) q h1.2 h2
theorem jv_and {a b : Bool} (h1 : a = true) (h2 : b = true) : (a && b) = true := by rw [h1, h2]; rfl
theorem jv_ck2_app {b : ByteArray} : ∀ (l1 l2 : List (List jv_I)) (pc : Nat), jv_ck2 b pc (l1 ++ l2) = (jv_ck2 b pc l1 && jv_ck2 b (pc + 16 * l1.length) l2)
  | [], l2, pc => by simp [jv_ck2]
  | c :: l1, l2, pc => by
    show (decide (c.length ≤ 16) && jv_ck1 b pc c && jv_ck2 b (pc + 16) (l1 ++ l2)) = (decide (c.length ≤ 16) && jv_ck1 b pc c && jv_ck2 b (pc + 16) l1 && jv_ck2 b (pc + 16 * (l1.length + 1)) l2)
    rw [jv_ck2_app l1 l2 (pc + 16), show pc + 16 + 16 * l1.length = pc + 16 * (l1.length + 1) by omega]
    simp only [Bool.and_assoc]
end
section
/-! A METHOD'S CODE CHECKED BY ITS BYTES AS A LIST (in an array each place costs its number): printed by wip/gen/fast.py -/
def fd_F (p : Nat) : {F : Nat → Decoder Instr // Decoder.instr p = Reader.u1 >>= F} := ⟨_, rfl⟩
theorem fd_u1 {b : ByteArray} {p : Nat} {x : UInt8} {r : List UInt8} (h : b.data.toList.drop p = x :: r) : Reader.runAt (Reader.u1 : Decoder Nat) b p = .ok (x.toNat, p + 1) ∧ b.data.toList.drop (p + 1) = r := by
  have hp : p < b.data.toList.length := by
    rcases Nat.lt_or_ge p b.data.toList.length with q | q
    · exact q
    · rw [List.drop_eq_nil_of_le q] at h; cases h
  have h2 := List.drop_eq_getElem_cons hp
  rw [h] at h2
  have e1 : x = b.data.toList[p] := (List.cons.inj h2).1
  have e2 : r = b.data.toList.drop (p + 1) := (List.cons.inj h2).2
  refine ⟨?_, e2.symm⟩
  have hs : p < b.size := hp
  show (if h : p < b.size then (do set (p + 1); pure (b[p]'h).toNat) else throw (HasTruncated.truncated p) : Decoder Nat) b p = _
  rw [dif_pos hs]
  show (Except.ok ((b[p]'hs).toNat, p + 1) : Except DecodeError (Nat × Nat)) = _
  rw [e1]
  rfl
theorem fd_u2 {b : ByteArray} {p : Nat} {x y : UInt8} {r : List UInt8} (h : b.data.toList.drop p = x :: y :: r) : Reader.runAt (Reader.u2 : Decoder Nat) b p = .ok (x.toNat * 256 + y.toNat, p + 2) := by
  obtain ⟨h1, h2⟩ := fd_u1 h
  have h3 := (fd_u1 h2).1
  show Except.bind (Reader.runAt (Reader.u1 : Decoder Nat) b p) (fun v => Except.bind (Reader.runAt (Reader.u1 : Decoder Nat) b v.2) (fun w => .ok (v.1 * 256 + w.1, w.2))) = _
  rw [h1]
  show Except.bind (Reader.runAt (Reader.u1 : Decoder Nat) b (p + 1)) (fun w => .ok (x.toNat * 256 + w.1, w.2)) = _
  rw [h3]
  rfl
theorem fd_s1 {b : ByteArray} {p : Nat} {x : UInt8} {r : List UInt8} (h : b.data.toList.drop p = x :: r) : Reader.runAt (Reader.s1 : Decoder Int) b p = .ok (Reader.signed 8 x.toNat, p + 1) := by
  show Except.bind (Reader.runAt (Reader.u1 : Decoder Nat) b p) (fun v => .ok (Reader.signed 8 v.1, v.2)) = _
  rw [(fd_u1 h).1]
  rfl
theorem fd_s2 {b : ByteArray} {p : Nat} {x y : UInt8} {r : List UInt8} (h : b.data.toList.drop p = x :: y :: r) : Reader.runAt (Reader.s2 : Decoder Int) b p = .ok (Reader.signed 16 (x.toNat * 256 + y.toNat), p + 2) := by
  show Except.bind (Reader.runAt (Reader.u2 : Decoder Nat) b p) (fun v => .ok (Reader.signed 16 v.1, v.2)) = _
  rw [fd_u2 h]
  rfl
theorem fd_go {b : ByteArray} {p k q : Nat} {i : Instr} (h1 : Reader.runAt (Reader.u1 : Decoder Nat) b p = .ok (k, p + 1)) (h2 : Reader.runAt ((fd_F p).1 k) b (p + 1) = .ok (i, p + 1 + q)) : decode b p = .ok (i, q + 1) := by
  unfold decode
  rw [(fd_F p).2]
  show Except.bind (Except.bind (Reader.runAt (Reader.u1 : Decoder Nat) b p) (fun v => Reader.runAt ((fd_F p).1 v.1) b v.2)) (fun v => .ok (v.1, v.2 - p)) = _
  rw [h1]
  show Except.bind (Reader.runAt ((fd_F p).1 k) b (p + 1)) (fun v => .ok (v.1, v.2 - p)) = _
  rw [h2]
  show Except.ok (i, p + 1 + q - p) = _
  rw [show p + 1 + q - p = q + 1 by omega]
theorem fd_map {α : Type} {m : Decoder α} {g : α → Instr} {b : ByteArray} {q q' : Nat} {a : α} (h : Reader.runAt m b q = .ok (a, q')) : Reader.runAt (m >>= fun v => pure (g v)) b q = .ok (g a, q') := by
  show Except.bind (Reader.runAt m b q) (fun v => .ok (g v.1, v.2)) = _
  rw [h]
  rfl
theorem fd_map2 {m : Decoder Nat} {m' : Decoder Int} {g : Nat → Int → Instr} {b : ByteArray} {q q' q'' : Nat} {a : Nat} {c : Int} (h : Reader.runAt m b q = .ok (a, q')) (h' : Reader.runAt m' b q' = .ok (c, q'')) : Reader.runAt (m >>= fun v => m' >>= fun w => pure (g v w)) b q = .ok (g a c, q'') := by
  show Except.bind (Reader.runAt m b q) (fun v => Except.bind (Reader.runAt m' b v.2) (fun w => .ok (g v.1 w.1, w.2))) = _
  rw [h]
  show Except.bind (Reader.runAt m' b q') (fun w => .ok (g a w.1, w.2)) = _
  rw [h']
  rfl
def fd_ic : Int → Nat
  | .ofNat 0 => 3
  | .ofNat 1 => 4
  | .ofNat 2 => 5
  | .ofNat 3 => 6
  | .ofNat 4 => 7
  | .ofNat 5 => 8
  | .negSucc 0 => 2
  | _ => 256
def fd_cn : ClassFile.Cond → Nat
  | .eq => 0
  | .ne => 1
  | .lt => 2
  | .ge => 3
  | .gt => 4
  | .le => 5
/-- the first byte (256: not looked at here) -/
def fd_op (i : Instr) : Nat := match i with
  | .ireturn => 172
  | .iaload => 46
  | .iadd => 96
  | .pop => 87
  | .return_ => 177
  | .isub => 100
  | .iastore => 79
  | .dup => 89
  | .imul => 104
  | .idiv => 108
  | .irem => 112
  | .dup2 => 92
  | .arraylength => 190
  | .ineg => 116
  | .iand => 126
  | .i2f => 134
  | .i2d => 135
  | .bastore => 84
  | .aaload => 50
  | .ishr => 122
  | .aastore => 83
  | .freturn => 174
  | .fdiv => 110
  | .f2d => 141
  | .dreturn => 175
  | .ddiv => 111
  | .baload => 51
  | .areturn => 176
  | .ixor => 130
  | .ishl => 120
  | .ior => 128
  | .iload _ => 21
  | .dload _ => 24
  | .aload _ => 25
  | .istore _ => 54
  | .dstore _ => 57
  | .astore _ => 58
  | .ldc _ => 18
  | .getfield _ => 180
  | .putfield _ => 181
  | .invokevirtual _ => 182
  | .invokespecial _ => 183
  | .invokestatic _ => 184
  | .new _ => 187
  | .anewarray _ => 189
  | .bipush _ => 16
  | .sipush _ => 17
  | .goto _ => 167
  | .aload_n n => 42 + n.val
  | .iload_n n => 26 + n.val
  | .istore_n n => 59 + n.val
  | .astore_n n => 75 + n.val
  | .iinc _ _ => 132
  | .iconst n => fd_ic n
  | .ifCond c _ => 153 + fd_cn c
  | .if_icmp c _ => 159 + fd_cn c
  | _ => 256
def fd_a1 (n : Nat) (r : List UInt8) : Bool := match r with
  | y :: _ => Nat.beq y.toNat n
  | [] => false
def fd_a2 (n : Nat) (r : List UInt8) : Bool := match r with
  | y :: z :: _ => Nat.beq (y.toNat * 256 + z.toNat) n
  | _ => false
def fd_b1 (n : Int) (r : List UInt8) : Bool := match r with
  | y :: _ => decide (Reader.signed 8 y.toNat = n)
  | [] => false
def fd_b2 (n : Int) (r : List UInt8) : Bool := match r with
  | y :: z :: _ => decide (Reader.signed 16 (y.toNat * 256 + z.toNat) = n)
  | _ => false
theorem fd_a1_ok {b : ByteArray} {p n : Nat} {r : List UInt8} (h : b.data.toList.drop p = r) (e : fd_a1 n r = true) : Reader.runAt (Reader.u1 : Decoder Nat) b p = .ok (n, p + 1) ∧ b.data.toList.drop (p + 1) = r.tail := by
  match r, h, e with
  | y :: r', h, e =>
    have e2 : y.toNat = n := Nat.eq_of_beq_eq_true e
    have h2 := fd_u1 h
    rw [e2] at h2
    exact h2
  | [], _, e => cases e
theorem fd_a2_ok {b : ByteArray} {p n : Nat} {r : List UInt8} (h : b.data.toList.drop p = r) (e : fd_a2 n r = true) : Reader.runAt (Reader.u2 : Decoder Nat) b p = .ok (n, p + 2) := by
  match r, h, e with
  | y :: z :: r', h, e =>
    have e2 : y.toNat * 256 + z.toNat = n := Nat.eq_of_beq_eq_true e
    have h2 := fd_u2 h
    rw [e2] at h2
    exact h2
  | [_], _, e => cases e
  | [], _, e => cases e
theorem fd_b1_ok {b : ByteArray} {p : Nat} {n : Int} {r : List UInt8} (h : b.data.toList.drop p = r) (e : fd_b1 n r = true) : Reader.runAt (Reader.s1 : Decoder Int) b p = .ok (n, p + 1) := by
  match r, h, e with
  | y :: r', h, e =>
    have e2 : Reader.signed 8 y.toNat = n := of_decide_eq_true e
    have h2 := fd_s1 h
    rw [e2] at h2
    exact h2
  | [], _, e => cases e
theorem fd_b2_ok {b : ByteArray} {p : Nat} {n : Int} {r : List UInt8} (h : b.data.toList.drop p = r) (e : fd_b2 n r = true) : Reader.runAt (Reader.s2 : Decoder Int) b p = .ok (n, p + 2) := by
  match r, h, e with
  | y :: z :: r', h, e =>
    have e2 : Reader.signed 16 (y.toNat * 256 + z.toNat) = n := of_decide_eq_true e
    have h2 := fd_s2 h
    rw [e2] at h2
    exact h2
  | [_], _, e => cases e
  | [], _, e => cases e
def fd_arg (i : Instr) (r : List UInt8) : Bool := match i with
  | .iload n => fd_a1 n r
  | .dload n => fd_a1 n r
  | .aload n => fd_a1 n r
  | .istore n => fd_a1 n r
  | .dstore n => fd_a1 n r
  | .astore n => fd_a1 n r
  | .ldc n => fd_a1 n r
  | .getfield n => fd_a2 n r
  | .putfield n => fd_a2 n r
  | .invokevirtual n => fd_a2 n r
  | .invokespecial n => fd_a2 n r
  | .invokestatic n => fd_a2 n r
  | .new n => fd_a2 n r
  | .anewarray n => fd_a2 n r
  | .bipush n => fd_b1 n r
  | .sipush n => fd_b2 n r
  | .goto n => fd_b2 n r
  | .ifCond _ n => fd_b2 n r
  | .if_icmp _ n => fd_b2 n r
  | .iinc a n => fd_a1 a r && fd_b1 n r.tail
  | _ => true
def fd_ck (i : Instr) (l : List UInt8) : Bool := match l with
  | x :: r => Nat.beq x.toNat (fd_op i) && fd_arg i r
  | [] => false
theorem fd_ok {b : ByteArray} {p : Nat} {i : Instr} {x : UInt8} {r : List UInt8} (h : b.data.toList.drop p = x :: r) (h1 : x.toNat = fd_op i) (h2 : fd_arg i r = true) : decode b p = .ok (i, jv_len i) := by
  have hx : x.toNat < 256 := x.toNat_lt
  rw [h1] at hx
  obtain ⟨hu, hr⟩ := fd_u1 h
  rw [h1] at hu
  cases i
  case ireturn => exact fd_go (k := 172) (q := 0) hu rfl
  case iaload => exact fd_go (k := 46) (q := 0) hu rfl
  case iadd => exact fd_go (k := 96) (q := 0) hu rfl
  case pop => exact fd_go (k := 87) (q := 0) hu rfl
  case return_ => exact fd_go (k := 177) (q := 0) hu rfl
  case isub => exact fd_go (k := 100) (q := 0) hu rfl
  case iastore => exact fd_go (k := 79) (q := 0) hu rfl
  case dup => exact fd_go (k := 89) (q := 0) hu rfl
  case imul => exact fd_go (k := 104) (q := 0) hu rfl
  case idiv => exact fd_go (k := 108) (q := 0) hu rfl
  case irem => exact fd_go (k := 112) (q := 0) hu rfl
  case dup2 => exact fd_go (k := 92) (q := 0) hu rfl
  case arraylength => exact fd_go (k := 190) (q := 0) hu rfl
  case ineg => exact fd_go (k := 116) (q := 0) hu rfl
  case iand => exact fd_go (k := 126) (q := 0) hu rfl
  case i2f => exact fd_go (k := 134) (q := 0) hu rfl
  case i2d => exact fd_go (k := 135) (q := 0) hu rfl
  case bastore => exact fd_go (k := 84) (q := 0) hu rfl
  case aaload => exact fd_go (k := 50) (q := 0) hu rfl
  case ishr => exact fd_go (k := 122) (q := 0) hu rfl
  case aastore => exact fd_go (k := 83) (q := 0) hu rfl
  case freturn => exact fd_go (k := 174) (q := 0) hu rfl
  case fdiv => exact fd_go (k := 110) (q := 0) hu rfl
  case f2d => exact fd_go (k := 141) (q := 0) hu rfl
  case dreturn => exact fd_go (k := 175) (q := 0) hu rfl
  case ddiv => exact fd_go (k := 111) (q := 0) hu rfl
  case baload => exact fd_go (k := 51) (q := 0) hu rfl
  case areturn => exact fd_go (k := 176) (q := 0) hu rfl
  case ixor => exact fd_go (k := 130) (q := 0) hu rfl
  case ishl => exact fd_go (k := 120) (q := 0) hu rfl
  case ior => exact fd_go (k := 128) (q := 0) hu rfl
  case iload n => exact fd_go (k := 21) (q := 1) hu (fd_map (g := Instr.iload) (fd_a1_ok hr h2).1)
  case dload n => exact fd_go (k := 24) (q := 1) hu (fd_map (g := Instr.dload) (fd_a1_ok hr h2).1)
  case aload n => exact fd_go (k := 25) (q := 1) hu (fd_map (g := Instr.aload) (fd_a1_ok hr h2).1)
  case istore n => exact fd_go (k := 54) (q := 1) hu (fd_map (g := Instr.istore) (fd_a1_ok hr h2).1)
  case dstore n => exact fd_go (k := 57) (q := 1) hu (fd_map (g := Instr.dstore) (fd_a1_ok hr h2).1)
  case astore n => exact fd_go (k := 58) (q := 1) hu (fd_map (g := Instr.astore) (fd_a1_ok hr h2).1)
  case ldc n => exact fd_go (k := 18) (q := 1) hu (fd_map (g := Instr.ldc) (fd_a1_ok hr h2).1)
  case getfield n => exact fd_go (k := 180) (q := 2) hu (fd_map (g := Instr.getfield) (fd_a2_ok hr h2))
  case putfield n => exact fd_go (k := 181) (q := 2) hu (fd_map (g := Instr.putfield) (fd_a2_ok hr h2))
  case invokevirtual n => exact fd_go (k := 182) (q := 2) hu (fd_map (g := Instr.invokevirtual) (fd_a2_ok hr h2))
  case invokespecial n => exact fd_go (k := 183) (q := 2) hu (fd_map (g := Instr.invokespecial) (fd_a2_ok hr h2))
  case invokestatic n => exact fd_go (k := 184) (q := 2) hu (fd_map (g := Instr.invokestatic) (fd_a2_ok hr h2))
  case new n => exact fd_go (k := 187) (q := 2) hu (fd_map (g := Instr.new) (fd_a2_ok hr h2))
  case anewarray n => exact fd_go (k := 189) (q := 2) hu (fd_map (g := Instr.anewarray) (fd_a2_ok hr h2))
  case bipush n => exact fd_go (k := 16) (q := 1) hu (fd_map (g := Instr.bipush) (fd_b1_ok hr h2))
  case sipush n => exact fd_go (k := 17) (q := 2) hu (fd_map (g := Instr.sipush) (fd_b2_ok hr h2))
  case goto n => exact fd_go (k := 167) (q := 2) hu (fd_map (g := Instr.goto) (fd_b2_ok hr h2))
  case aload_n n =>
    obtain ⟨n, hn⟩ := n
    match n, hn, hu, hx with
    | 0, _, hu, _ => exact fd_go (k := 42) (q := 0) hu rfl
    | 1, _, hu, _ => exact fd_go (k := 43) (q := 0) hu rfl
    | 2, _, hu, _ => exact fd_go (k := 44) (q := 0) hu rfl
    | 3, _, hu, _ => exact fd_go (k := 45) (q := 0) hu rfl
    | n + 4, hn, _, _ => exact absurd hn (by omega)
  case iload_n n =>
    obtain ⟨n, hn⟩ := n
    match n, hn, hu, hx with
    | 0, _, hu, _ => exact fd_go (k := 26) (q := 0) hu rfl
    | 1, _, hu, _ => exact fd_go (k := 27) (q := 0) hu rfl
    | 2, _, hu, _ => exact fd_go (k := 28) (q := 0) hu rfl
    | 3, _, hu, _ => exact fd_go (k := 29) (q := 0) hu rfl
    | n + 4, hn, _, _ => exact absurd hn (by omega)
  case istore_n n =>
    obtain ⟨n, hn⟩ := n
    match n, hn, hu, hx with
    | 0, _, hu, _ => exact fd_go (k := 59) (q := 0) hu rfl
    | 1, _, hu, _ => exact fd_go (k := 60) (q := 0) hu rfl
    | 2, _, hu, _ => exact fd_go (k := 61) (q := 0) hu rfl
    | 3, _, hu, _ => exact fd_go (k := 62) (q := 0) hu rfl
    | n + 4, hn, _, _ => exact absurd hn (by omega)
  case astore_n n =>
    obtain ⟨n, hn⟩ := n
    match n, hn, hu, hx with
    | 0, _, hu, _ => exact fd_go (k := 75) (q := 0) hu rfl
    | 1, _, hu, _ => exact fd_go (k := 76) (q := 0) hu rfl
    | 2, _, hu, _ => exact fd_go (k := 77) (q := 0) hu rfl
    | 3, _, hu, _ => exact fd_go (k := 78) (q := 0) hu rfl
    | n + 4, hn, _, _ => exact absurd hn (by omega)
  case iinc a n =>
    have h3 : (fd_a1 a r && fd_b1 n r.tail) = true := h2
    rw [Bool.and_eq_true] at h3
    obtain ⟨q1, q2⟩ := fd_a1_ok hr h3.1
    exact fd_go (k := 132) (q := 2) hu (fd_map2 (g := Instr.iinc) q1 (fd_b1_ok q2 h3.2))
  case iconst n =>
    match n, hu, hx with
    | .ofNat 0, hu, _ => exact fd_go (k := 3) (q := 0) hu rfl
    | .ofNat 1, hu, _ => exact fd_go (k := 4) (q := 0) hu rfl
    | .ofNat 2, hu, _ => exact fd_go (k := 5) (q := 0) hu rfl
    | .ofNat 3, hu, _ => exact fd_go (k := 6) (q := 0) hu rfl
    | .ofNat 4, hu, _ => exact fd_go (k := 7) (q := 0) hu rfl
    | .ofNat 5, hu, _ => exact fd_go (k := 8) (q := 0) hu rfl
    | .ofNat (m + 6), _, hx => exact absurd hx (Nat.lt_irrefl 256)
    | .negSucc 0, hu, _ => exact fd_go (k := 2) (q := 0) hu rfl
    | .negSucc (m + 1), _, hx => exact absurd hx (Nat.lt_irrefl 256)
  case ifCond c n =>
    cases c
    case eq => exact fd_go (k := 153) (q := 2) hu (fd_map (g := Instr.ifCond .eq) (fd_b2_ok hr h2))
    case ne => exact fd_go (k := 154) (q := 2) hu (fd_map (g := Instr.ifCond .ne) (fd_b2_ok hr h2))
    case lt => exact fd_go (k := 155) (q := 2) hu (fd_map (g := Instr.ifCond .lt) (fd_b2_ok hr h2))
    case ge => exact fd_go (k := 156) (q := 2) hu (fd_map (g := Instr.ifCond .ge) (fd_b2_ok hr h2))
    case gt => exact fd_go (k := 157) (q := 2) hu (fd_map (g := Instr.ifCond .gt) (fd_b2_ok hr h2))
    case le => exact fd_go (k := 158) (q := 2) hu (fd_map (g := Instr.ifCond .le) (fd_b2_ok hr h2))
  case if_icmp c n =>
    cases c
    case eq => exact fd_go (k := 159) (q := 2) hu (fd_map (g := Instr.if_icmp .eq) (fd_b2_ok hr h2))
    case ne => exact fd_go (k := 160) (q := 2) hu (fd_map (g := Instr.if_icmp .ne) (fd_b2_ok hr h2))
    case lt => exact fd_go (k := 161) (q := 2) hu (fd_map (g := Instr.if_icmp .lt) (fd_b2_ok hr h2))
    case ge => exact fd_go (k := 162) (q := 2) hu (fd_map (g := Instr.if_icmp .ge) (fd_b2_ok hr h2))
    case gt => exact fd_go (k := 163) (q := 2) hu (fd_map (g := Instr.if_icmp .gt) (fd_b2_ok hr h2))
    case le => exact fd_go (k := 164) (q := 2) hu (fd_map (g := Instr.if_icmp .le) (fd_b2_ok hr h2))
  all_goals exact absurd hx (Nat.lt_irrefl 256)
theorem fd_ck_ok {b : ByteArray} {p : Nat} {i : Instr} {l : List UInt8} (h : b.data.toList.drop p = l) (e : fd_ck i l = true) : decode b p = .ok (i, jv_len i) := by
  match l, h, e with
  | x :: r, h, e =>
    have e2 : (Nat.beq x.toNat (fd_op i) && fd_arg i r) = true := e
    rw [Bool.and_eq_true] at e2
    exact fd_ok h (Nat.eq_of_beq_eq_true e2.1) e2.2
  | [], _, e => cases e
def jv_f1 (b : ByteArray) : List jv_I → List UInt8 → Nat → Bool
  | [], _, _ => true
  | none :: c, l, pc => jv_f1 b c l.tail (pc + 1)
  | some (i, len) :: c, l, pc => (fd_ck i l && Nat.beq len (jv_len i) || decide (decode b pc = .ok (i, len)) && (jv_sw i || decide (len = jv_len i))) && jv_f1 b c l.tail (pc + 1)
def jv_f2 (b : ByteArray) : List (List jv_I) → List UInt8 → Nat → Bool
  | [], _, _ => true
  | c :: cs, l, pc => Nat.ble c.length 16 && jv_f1 b c l pc && jv_f2 b cs (l.drop 16) (pc + 16)
theorem jv_f1_ok {b : ByteArray} : ∀ (c : List jv_I) (l : List UInt8) (pc : Nat), b.data.toList.drop pc = l → jv_f1 b c l pc = true → jv_ck1 b pc c = true
  | [], _, _, _, _ => rfl
  | none :: c, l, pc, h, e => jv_f1_ok c l.tail (pc + 1) (by rw [← h, List.tail_drop]) e
  | some (i, len) :: c, l, pc, h, e => by
    have e2 : ((fd_ck i l && Nat.beq len (jv_len i) || decide (decode b pc = .ok (i, len)) && (jv_sw i || decide (len = jv_len i))) && jv_f1 b c l.tail (pc + 1)) = true := e
    rw [Bool.and_eq_true, Bool.or_eq_true, Bool.and_eq_true] at e2
    have h3 := jv_f1_ok c l.tail (pc + 1) (by rw [← h, List.tail_drop]) e2.2
    show (decide (decode b pc = .ok (i, len)) && (jv_sw i || decide (len = jv_len i)) && jv_ck1 b (pc + 1) c) = true
    rw [Bool.and_eq_true]
    refine ⟨?_, h3⟩
    rcases e2.1 with q | q
    · have hl : len = jv_len i := Nat.eq_of_beq_eq_true q.2
      have hd := fd_ck_ok h q.1
      rw [← hl] at hd
      rw [Bool.and_eq_true, Bool.or_eq_true]
      exact ⟨decide_eq_true hd, Or.inr (decide_eq_true hl)⟩
    · exact q
theorem jv_f2_ok {b : ByteArray} : ∀ (cs : List (List jv_I)) (l : List UInt8) (pc : Nat), b.data.toList.drop pc = l → jv_f2 b cs l pc = true → jv_ck2 b pc cs = true
  | [], _, _, _, _ => rfl
  | c :: cs, l, pc, h, e => by
    have e2 : (Nat.ble c.length 16 && jv_f1 b c l pc && jv_f2 b cs (l.drop 16) (pc + 16)) = true := e
    rw [Bool.and_eq_true, Bool.and_eq_true] at e2
    show (decide (c.length ≤ 16) && jv_ck1 b pc c && jv_ck2 b (pc + 16) cs) = true
    rw [Bool.and_eq_true, Bool.and_eq_true]
    exact ⟨⟨decide_eq_true (Nat.le_of_ble_eq_true e2.1.1), jv_f1_ok c l pc h e2.1.2⟩, jv_f2_ok cs (l.drop 16) (pc + 16) (by rw [← h, List.drop_drop]) e2.2⟩
theorem jv_fast {b : ByteArray} {cs : List (List jv_I)} (h : jv_f2 b cs b.data.toList 0 = true) : jv_ck2 b 0 cs = true := jv_f2_ok cs _ 0 rfl h
end
section
theorem jv_k0 : jv_ck2 (jv_ym 0).2.1 0 jv_c0 = true := jv_fast (by decide +kernel)
theorem jv_k1 : jv_ck2 (jv_ym 1).2.1 0 jv_c1 = true := jv_fast (by decide +kernel)
theorem jv_k2 : jv_ck2 (jv_ym 2).2.1 0 jv_c2 = true := jv_fast (by decide +kernel)
theorem jv_k3 : jv_ck2 (jv_ym 3).2.1 0 jv_c3 = true := jv_fast (by decide +kernel)
theorem jv_k4 : jv_ck2 (jv_ym 4).2.1 0 jv_c4 = true := jv_fast (by decide +kernel)
theorem jv_k5 : jv_ck2 (jv_ym 5).2.1 0 jv_c5 = true := jv_fast (by decide +kernel)
theorem jv_k6 : jv_ck2 (jv_ym 6).2.1 0 jv_c6 = true := jv_fast (by decide +kernel)
theorem jv_k7 : jv_ck2 (jv_ym 7).2.1 0 jv_c7 = true := jv_fast (by decide +kernel)
theorem jv_k8 : jv_ck2 (jv_ym 8).2.1 0 jv_c8 = true := jv_fast (by decide +kernel)
theorem jv_k9 : jv_ck2 (jv_ym 9).2.1 0 jv_c9 = true := jv_fast (by decide +kernel)
theorem jv_k10 : jv_ck2 (jv_ym 10).2.1 0 jv_c10 = true := jv_fast (by decide +kernel)
theorem jv_k11 : jv_ck2 (jv_ym 11).2.1 0 jv_c11 = true := jv_fast (by decide +kernel)
theorem jv_k12 : jv_ck2 (jv_ym 12).2.1 0 jv_c12 = true := jv_fast (by decide +kernel)
theorem jv_k13 : jv_ck2 (jv_ym 13).2.1 0 jv_c13 = true := jv_fast (by decide +kernel)
theorem jv_k14 : jv_ck2 (jv_ym 14).2.1 0 jv_c14 = true := jv_fast (by decide +kernel)
theorem jv_k15 : jv_ck2 (jv_ym 15).2.1 0 jv_c15 = true := jv_fast (by decide +kernel)
theorem jv_k16 : jv_ck2 (jv_ym 16).2.1 0 jv_c16 = true := jv_fast (by decide +kernel)
theorem jv_k17 : jv_ck2 (jv_ym 17).2.1 0 jv_c17 = true := jv_fast (by decide +kernel)
theorem jv_k18 : jv_ck2 (jv_ym 18).2.1 0 jv_c18 = true := jv_fast (by decide +kernel)
theorem jv_k19 : jv_ck2 (jv_ym 19).2.1 0 jv_c19 = true := jv_fast (by decide +kernel)
theorem jv_k20 : jv_ck2 (jv_ym 20).2.1 0 jv_c20 = true := jv_fast (by decide +kernel)
theorem jv_k21 : jv_ck2 (jv_ym 21).2.1 0 jv_c21 = true := jv_fast (by decide +kernel)
theorem jv_k22 : jv_ck2 (jv_ym 22).2.1 0 jv_c22 = true := jv_fast (by decide +kernel)
theorem jv_k23 : jv_ck2 (jv_ym 23).2.1 0 jv_c23 = true := jv_fast (by decide +kernel)
theorem jv_k24 : jv_ck2 (jv_ym 24).2.1 0 jv_c24 = true := jv_fast (by decide +kernel)
theorem jv_k25 : jv_ck2 (jv_ym 25).2.1 0 jv_c25 = true := jv_fast (by decide +kernel)
theorem jv_k26 : jv_ck2 (jv_ym 26).2.1 0 jv_c26 = true := jv_fast (by decide +kernel)
theorem jv_k27 : jv_ck2 (jv_ym 27).2.1 0 jv_c27 = true := jv_fast (by decide +kernel)
theorem jv_k28 : jv_ck2 (jv_ym 28).2.1 0 jv_c28 = true := jv_fast (by decide +kernel)
theorem jv_k29 : jv_ck2 (jv_ym 29).2.1 0 jv_c29 = true := jv_fast (by decide +kernel)
theorem jv_k30 : jv_ck2 (jv_ym 30).2.1 0 jv_c30 = true := jv_fast (by decide +kernel)
theorem jv_k31 : jv_ck2 (jv_ym 31).2.1 0 jv_c31 = true := jv_fast (by decide +kernel)
theorem jv_k32 : jv_ck2 (jv_ym 32).2.1 0 jv_c32 = true := jv_fast (by decide +kernel)
theorem jv_k33 : jv_ck2 (jv_ym 33).2.1 0 jv_c33 = true := jv_fast (by decide +kernel)
theorem jv_k34 : jv_ck2 (jv_ym 34).2.1 0 jv_c34 = true := jv_fast (by decide +kernel)
theorem jv_k35 : jv_ck2 (jv_ym 35).2.1 0 jv_c35 = true := jv_fast (by decide +kernel)
theorem jv_k36 : jv_ck2 (jv_ym 36).2.1 0 jv_c36 = true := jv_fast (by decide +kernel)
theorem jv_k37 : jv_ck2 (jv_ym 37).2.1 0 jv_c37 = true := jv_fast (by decide +kernel)
theorem jv_k38 : jv_ck2 (jv_ym 38).2.1 0 jv_c38 = true := jv_fast (by decide +kernel)
theorem jv_k39 : jv_ck2 (jv_ym 39).2.1 0 jv_c39 = true := jv_fast (by decide +kernel)
theorem jv_k40 : jv_ck2 (jv_ym 40).2.1 0 jv_c40 = true := jv_fast (by decide +kernel)
theorem jv_k41 : jv_ck2 (jv_ym 41).2.1 0 jv_c41 = true := jv_fast (by decide +kernel)
theorem jv_k42 : jv_ck2 (jv_ym 42).2.1 0 jv_c42 = true := jv_fast (by decide +kernel)
theorem jv_k43 : jv_ck2 (jv_ym 43).2.1 0 jv_c43 = true := jv_fast (by decide +kernel)
theorem jv_k44 : jv_ck2 (jv_ym 44).2.1 0 jv_c44 = true := jv_fast (by decide +kernel)
theorem jv_k45 : jv_ck2 (jv_ym 45).2.1 0 jv_c45 = true := jv_fast (by decide +kernel)
theorem jv_k46 : jv_ck2 (jv_ym 46).2.1 0 jv_c46 = true := jv_fast (by decide +kernel)
theorem jv_k47 : jv_ck2 (jv_ym 47).2.1 0 jv_c47 = true := jv_fast (by decide +kernel)
theorem jv_k48 : jv_ck2 (jv_ym 48).2.1 0 jv_c48 = true := jv_fast (by decide +kernel)
theorem jv_k49 : jv_ck2 (jv_ym 49).2.1 0 jv_c49 = true := jv_fast (by decide +kernel)
theorem jv_k50 : jv_ck2 (jv_ym 50).2.1 0 jv_c50 = true := jv_fast (by decide +kernel)
theorem jv_k51 : jv_ck2 (jv_ym 51).2.1 0 jv_c51 = true := jv_fast (by decide +kernel)
theorem jv_k52 : jv_ck2 (jv_ym 52).2.1 0 jv_c52 = true := jv_fast (by decide +kernel)
theorem jv_k53 : jv_ck2 (jv_ym 53).2.1 0 jv_c53 = true := jv_fast (by decide +kernel)
theorem jv_k54 : jv_ck2 (jv_ym 54).2.1 0 jv_c54 = true := jv_fast (by decide +kernel)
theorem jv_k55 : jv_ck2 (jv_ym 55).2.1 0 jv_c55 = true := jv_fast (by decide +kernel)
theorem jv_k56 : jv_ck2 (jv_ym 56).2.1 0 jv_c56 = true := jv_fast (by decide +kernel)
theorem jv_k57 : jv_ck2 (jv_ym 57).2.1 0 jv_c57 = true := jv_fast (by decide +kernel)
theorem jv_k58 : jv_ck2 (jv_ym 58).2.1 0 jv_c58 = true := jv_fast (by decide +kernel)
theorem jv_k59 : jv_ck2 (jv_ym 59).2.1 0 jv_c59 = true := jv_fast (by decide +kernel)
theorem jv_k60 : jv_ck2 (jv_ym 60).2.1 0 jv_c60 = true := jv_fast (by decide +kernel)
theorem jv_k61 : jv_ck2 (jv_ym 61).2.1 0 jv_c61 = true := jv_fast (by decide +kernel)
theorem jv_k62 : jv_ck2 (jv_ym 62).2.1 0 jv_c62 = true := jv_fast (by decide +kernel)
theorem jv_k63 : jv_ck2 (jv_ym 63).2.1 0 jv_c63 = true := jv_fast (by decide +kernel)
theorem jv_k64 : jv_ck2 (jv_ym 64).2.1 0 jv_c64 = true := jv_fast (by decide +kernel)
theorem jv_k65 : jv_ck2 (jv_ym 65).2.1 0 jv_c65 = true := jv_fast (by decide +kernel)
theorem jv_k66 : jv_ck2 (jv_ym 66).2.1 0 jv_c66 = true := jv_fast (by decide +kernel)
theorem jv_k67 : jv_ck2 (jv_ym 67).2.1 0 jv_c67 = true := jv_fast (by decide +kernel)
theorem jv_k68 : jv_ck2 (jv_ym 68).2.1 0 jv_c68 = true := jv_fast (by decide +kernel)
theorem jv_k69 : jv_ck2 (jv_ym 69).2.1 0 jv_c69 = true := jv_fast (by decide +kernel)
theorem jv_k70 : jv_ck2 (jv_ym 70).2.1 0 jv_c70 = true := jv_fast (by decide +kernel)
theorem jv_k71 : jv_ck2 (jv_ym 71).2.1 0 jv_c71 = true := jv_fast (by decide +kernel)
theorem jv_k72 : jv_ck2 (jv_ym 72).2.1 0 jv_c72 = true := jv_fast (by decide +kernel)
theorem jv_k73 : jv_ck2 (jv_ym 73).2.1 0 jv_c73 = true := jv_fast (by decide +kernel)
theorem jv_k74 : jv_ck2 (jv_ym 74).2.1 0 jv_c74 = true := jv_fast (by decide +kernel)
theorem jv_k75 : jv_ck2 (jv_ym 75).2.1 0 jv_c75 = true := jv_fast (by decide +kernel)
theorem jv_k76 : jv_ck2 (jv_ym 76).2.1 0 jv_c76 = true := jv_fast (by decide +kernel)
theorem jv_k77 : jv_ck2 (jv_ym 77).2.1 0 jv_c77 = true := jv_fast (by decide +kernel)
theorem jv_k78 : jv_ck2 (jv_ym 78).2.1 0 jv_c78 = true := jv_fast (by decide +kernel)
theorem jv_k79 : jv_ck2 (jv_ym 79).2.1 0 jv_c79 = true := jv_fast (by decide +kernel)
theorem jv_k80 : jv_ck2 (jv_ym 80).2.1 0 jv_c80 = true := jv_fast (by decide +kernel)
theorem jv_k81 : jv_ck2 (jv_ym 81).2.1 0 jv_c81 = true := jv_fast (by decide +kernel)
theorem jv_k82 : jv_ck2 (jv_ym 82).2.1 0 jv_c82 = true := jv_fast (by decide +kernel)
theorem jv_k83 : jv_ck2 (jv_ym 83).2.1 0 jv_c83 = true := jv_fast (by decide +kernel)
theorem jv_k84 : jv_ck2 (jv_ym 84).2.1 0 jv_c84 = true := jv_fast (by decide +kernel)
theorem jv_k85 : jv_ck2 (jv_ym 85).2.1 0 jv_c85 = true := jv_fast (by decide +kernel)
theorem jv_k86 : jv_ck2 (jv_ym 86).2.1 0 jv_c86 = true := jv_fast (by decide +kernel)
theorem jv_k87 : jv_ck2 (jv_ym 87).2.1 0 jv_c87 = true := jv_fast (by decide +kernel)
theorem jv_k88 : jv_ck2 (jv_ym 88).2.1 0 jv_c88 = true := jv_fast (by decide +kernel)
theorem jv_k89 : jv_ck2 (jv_ym 89).2.1 0 jv_c89 = true := jv_fast (by decide +kernel)
theorem jv_k90 : jv_ck2 (jv_ym 90).2.1 0 jv_c90 = true := jv_fast (by decide +kernel)
theorem jv_k91 : jv_ck2 (jv_ym 91).2.1 0 jv_c91 = true := jv_fast (by decide +kernel)
theorem jv_k92 : jv_ck2 (jv_ym 92).2.1 0 jv_c92 = true := jv_fast (by decide +kernel)
theorem jv_k93 : jv_ck2 (jv_ym 93).2.1 0 jv_c93 = true := jv_fast (by decide +kernel)
theorem jv_k94 : jv_ck2 (jv_ym 94).2.1 0 jv_c94 = true := jv_fast (by decide +kernel)
theorem jv_k95 : jv_ck2 (jv_ym 95).2.1 0 jv_c95 = true := jv_fast (by decide +kernel)
theorem jv_k96 : jv_ck2 (jv_ym 96).2.1 0 jv_c96 = true := jv_fast (by decide +kernel)
theorem jv_k97 : jv_ck2 (jv_ym 97).2.1 0 jv_c97 = true := jv_fast (by decide +kernel)
theorem jv_k98 : jv_ck2 (jv_ym 98).2.1 0 jv_c98 = true := jv_fast (by decide +kernel)
theorem jv_k99 : jv_ck2 (jv_ym 99).2.1 0 jv_c99 = true := jv_fast (by decide +kernel)
theorem jv_k100 : jv_ck2 (jv_ym 100).2.1 0 jv_c100 = true := jv_fast (by decide +kernel)
theorem jv_k101 : jv_ck2 (jv_ym 101).2.1 0 jv_c101 = true := jv_fast (by decide +kernel)
theorem jv_k102 : jv_ck2 (jv_ym 102).2.1 0 jv_c102 = true := jv_fast (by decide +kernel)
theorem jv_k103 : jv_ck2 (jv_ym 103).2.1 0 jv_c103 = true := jv_fast (by decide +kernel)
theorem jv_k104 : jv_ck2 (jv_ym 104).2.1 0 jv_c104 = true := jv_fast (by decide +kernel)
theorem jv_k105 : jv_ck2 (jv_ym 105).2.1 0 jv_c105 = true := jv_fast (by decide +kernel)
theorem jv_k106 : jv_ck2 (jv_ym 106).2.1 0 jv_c106 = true := jv_fast (by decide +kernel)
theorem jv_k107 : jv_ck2 (jv_ym 107).2.1 0 jv_c107 = true := jv_fast (by decide +kernel)
theorem jv_k108 : jv_ck2 (jv_ym 108).2.1 0 jv_c108 = true := jv_fast (by decide +kernel)
theorem jv_k109 : jv_ck2 (jv_ym 109).2.1 0 jv_c109 = true := jv_fast (by decide +kernel)
theorem jv_k110 : jv_ck2 (jv_ym 110).2.1 0 jv_c110 = true := jv_fast (by decide +kernel)
theorem jv_k111 : jv_ck2 (jv_ym 111).2.1 0 jv_c111 = true := jv_fast (by decide +kernel)
theorem jv_k112 : jv_ck2 (jv_ym 112).2.1 0 jv_c112 = true := jv_fast (by decide +kernel)
end
section
theorem jv_k113 : jv_ck2 (jv_ym 113).2.1 0 jv_c113 = true := jv_fast (by decide +kernel)
theorem jv_k114 : jv_ck2 (jv_ym 114).2.1 0 jv_c114 = true := jv_fast (by decide +kernel)
theorem jv_k115 : jv_ck2 (jv_ym 115).2.1 0 jv_c115 = true := jv_fast (by decide +kernel)
theorem jv_k116 : jv_ck2 (jv_ym 116).2.1 0 jv_c116 = true := jv_fast (by decide +kernel)
theorem jv_k117 : jv_ck2 (jv_ym 117).2.1 0 jv_c117 = true := jv_fast (by decide +kernel)
theorem jv_k118 : jv_ck2 (jv_ym 118).2.1 0 jv_c118 = true := jv_fast (by decide +kernel)
theorem jv_k119 : jv_ck2 (jv_ym 119).2.1 0 jv_c119 = true := jv_fast (by decide +kernel)
theorem jv_k120 : jv_ck2 (jv_ym 120).2.1 0 jv_c120 = true := jv_fast (by decide +kernel)
theorem jv_k121 : jv_ck2 (jv_ym 121).2.1 0 jv_c121 = true := jv_fast (by decide +kernel)
theorem jv_k122 : jv_ck2 (jv_ym 122).2.1 0 jv_c122 = true := jv_fast (by decide +kernel)
theorem jv_k123 : jv_ck2 (jv_ym 123).2.1 0 jv_c123 = true := jv_fast (by decide +kernel)
theorem jv_k124 : jv_ck2 (jv_ym 124).2.1 0 jv_c124 = true := jv_fast (by decide +kernel)
theorem jv_k125 : jv_ck2 (jv_ym 125).2.1 0 jv_c125 = true := jv_fast (by decide +kernel)
theorem jv_k126 : jv_ck2 (jv_ym 126).2.1 0 jv_c126 = true := jv_fast (by decide +kernel)
theorem jv_k127 : jv_ck2 (jv_ym 127).2.1 0 jv_c127 = true := jv_fast (by decide +kernel)
theorem jv_k128 : jv_ck2 (jv_ym 128).2.1 0 jv_c128 = true := jv_fast (by decide +kernel)
theorem jv_k129 : jv_ck2 (jv_ym 129).2.1 0 jv_c129 = true := jv_fast (by decide +kernel)
theorem jv_k130 : jv_ck2 (jv_ym 130).2.1 0 jv_c130 = true := jv_fast (by decide +kernel)
theorem jv_k131 : jv_ck2 (jv_ym 131).2.1 0 jv_c131 = true := jv_fast (by decide +kernel)
theorem jv_k132 : jv_ck2 (jv_ym 132).2.1 0 jv_c132 = true := jv_fast (by decide +kernel)
theorem jv_k133 : jv_ck2 (jv_ym 133).2.1 0 jv_c133 = true := jv_fast (by decide +kernel)
theorem jv_k134 : jv_ck2 (jv_ym 134).2.1 0 jv_c134 = true := jv_fast (by decide +kernel)
theorem jv_k135 : jv_ck2 (jv_ym 135).2.1 0 jv_c135 = true := jv_fast (by decide +kernel)
theorem jv_k136 : jv_ck2 (jv_ym 136).2.1 0 jv_c136 = true := jv_fast (by decide +kernel)
theorem jv_k137 : jv_ck2 (jv_ym 137).2.1 0 jv_c137 = true := jv_fast (by decide +kernel)
theorem jv_k138 : jv_ck2 (jv_ym 138).2.1 0 jv_c138 = true := jv_fast (by decide +kernel)
theorem jv_k139 : jv_ck2 (jv_ym 139).2.1 0 jv_c139 = true := jv_fast (by decide +kernel)
theorem jv_k140 : jv_ck2 (jv_ym 140).2.1 0 jv_c140 = true := jv_fast (by decide +kernel)
theorem jv_k141 : jv_ck2 (jv_ym 141).2.1 0 jv_c141 = true := jv_fast (by decide +kernel)
theorem jv_k142 : jv_ck2 (jv_ym 142).2.1 0 jv_c142 = true := jv_fast (by decide +kernel)
theorem jv_k143 : jv_ck2 (jv_ym 143).2.1 0 jv_c143 = true := jv_fast (by decide +kernel)
theorem jv_k144 : jv_ck2 (jv_ym 144).2.1 0 jv_c144 = true := jv_fast (by decide +kernel)
theorem jv_k145 : jv_ck2 (jv_ym 145).2.1 0 jv_c145 = true := jv_fast (by decide +kernel)
theorem jv_k146 : jv_ck2 (jv_ym 146).2.1 0 jv_c146 = true := jv_fast (by decide +kernel)
theorem jv_k147 : jv_ck2 (jv_ym 147).2.1 0 jv_c147 = true := jv_fast (by decide +kernel)
theorem jv_k148 : jv_ck2 (jv_ym 148).2.1 0 jv_c148 = true := jv_fast (by decide +kernel)
theorem jv_k149 : jv_ck2 (jv_ym 149).2.1 0 jv_c149 = true := jv_fast (by decide +kernel)
theorem jv_k150 : jv_ck2 (jv_ym 150).2.1 0 jv_c150 = true := jv_fast (by decide +kernel)
theorem jv_k151 : jv_ck2 (jv_ym 151).2.1 0 jv_c151 = true := jv_fast (by decide +kernel)
theorem jv_k152 : jv_ck2 (jv_ym 152).2.1 0 jv_c152 = true := jv_fast (by decide +kernel)
theorem jv_k153 : jv_ck2 (jv_ym 153).2.1 0 jv_c153 = true := jv_fast (by decide +kernel)
theorem jv_k154 : jv_ck2 (jv_ym 154).2.1 0 jv_c154 = true := jv_fast (by decide +kernel)
theorem jv_k155 : jv_ck2 (jv_ym 155).2.1 0 jv_c155 = true := jv_fast (by decide +kernel)
theorem jv_k156 : jv_ck2 (jv_ym 156).2.1 0 jv_c156 = true := jv_fast (by decide +kernel)
theorem jv_k157 : jv_ck2 (jv_ym 157).2.1 0 jv_c157 = true := jv_fast (by decide +kernel)
theorem jv_k158 : jv_ck2 (jv_ym 158).2.1 0 jv_c158 = true := jv_fast (by decide +kernel)
theorem jv_k159 : jv_ck2 (jv_ym 159).2.1 0 jv_c159 = true := jv_fast (by decide +kernel)
theorem jv_k160 : jv_ck2 (jv_ym 160).2.1 0 jv_c160 = true := jv_fast (by decide +kernel)
theorem jv_k161 : jv_ck2 (jv_ym 161).2.1 0 jv_c161 = true := jv_fast (by decide +kernel)
theorem jv_k162 : jv_ck2 (jv_ym 162).2.1 0 jv_c162 = true := jv_fast (by decide +kernel)
theorem jv_k163 : jv_ck2 (jv_ym 163).2.1 0 jv_c163 = true := jv_fast (by decide +kernel)
theorem jv_k164 : jv_ck2 (jv_ym 164).2.1 0 jv_c164 = true := jv_fast (by decide +kernel)
theorem jv_k165 : jv_ck2 (jv_ym 165).2.1 0 jv_c165 = true := jv_fast (by decide +kernel)
theorem jv_k166 : jv_ck2 (jv_ym 166).2.1 0 jv_c166 = true := jv_fast (by decide +kernel)
theorem jv_k167 : jv_ck2 (jv_ym 167).2.1 0 jv_c167 = true := jv_fast (by decide +kernel)
theorem jv_k168 : jv_ck2 (jv_ym 168).2.1 0 jv_c168 = true := jv_fast (by decide +kernel)
theorem jv_k169 : jv_ck2 (jv_ym 169).2.1 0 jv_c169 = true := jv_fast (by decide +kernel)
theorem jv_k170 : jv_ck2 (jv_ym 170).2.1 0 jv_c170 = true := jv_fast (by decide +kernel)
theorem jv_k171 : jv_ck2 (jv_ym 171).2.1 0 jv_c171 = true := jv_fast (by decide +kernel)
theorem jv_k172 : jv_ck2 (jv_ym 172).2.1 0 jv_c172 = true := jv_fast (by decide +kernel)
theorem jv_k173 : jv_ck2 (jv_ym 173).2.1 0 jv_c173 = true := jv_fast (by decide +kernel)
theorem jv_k174 : jv_ck2 (jv_ym 174).2.1 0 jv_c174 = true := jv_fast (by decide +kernel)
theorem jv_k175 : jv_ck2 (jv_ym 175).2.1 0 jv_c175 = true := jv_fast (by decide +kernel)
theorem jv_k176 : jv_ck2 (jv_ym 176).2.1 0 jv_c176 = true := jv_fast (by decide +kernel)
theorem jv_k177 : jv_ck2 (jv_ym 177).2.1 0 jv_c177 = true := jv_fast (by decide +kernel)
theorem jv_k178 : jv_ck2 (jv_ym 178).2.1 0 jv_c178 = true := jv_fast (by decide +kernel)
theorem jv_k179 : jv_ck2 (jv_ym 179).2.1 0 jv_c179 = true := jv_fast (by decide +kernel)
theorem jv_k180 : jv_ck2 (jv_ym 180).2.1 0 jv_c180 = true := jv_fast (by decide +kernel)
theorem jv_k181 : jv_ck2 (jv_ym 181).2.1 0 jv_c181 = true := jv_fast (by decide +kernel)
theorem jv_k182 : jv_ck2 (jv_ym 182).2.1 0 jv_c182 = true := jv_fast (by decide +kernel)
theorem jv_k183 : jv_ck2 (jv_ym 183).2.1 0 jv_c183 = true := jv_fast (by decide +kernel)
theorem jv_k184 : jv_ck2 (jv_ym 184).2.1 0 jv_c184 = true := jv_fast (by decide +kernel)
theorem jv_k185 : jv_ck2 (jv_ym 185).2.1 0 jv_c185 = true := jv_fast (by decide +kernel)
theorem jv_k186 : jv_ck2 (jv_ym 186).2.1 0 jv_c186 = true := jv_fast (by decide +kernel)
theorem jv_k187 : jv_ck2 (jv_ym 187).2.1 0 jv_c187 = true := jv_fast (by decide +kernel)
theorem jv_k188 : jv_ck2 (jv_ym 188).2.1 0 jv_c188 = true := jv_fast (by decide +kernel)
theorem jv_k189 : jv_ck2 (jv_ym 189).2.1 0 jv_c189 = true := jv_fast (by decide +kernel)
theorem jv_k190 : jv_ck2 (jv_ym 190).2.1 0 jv_c190 = true := jv_fast (by decide +kernel)
theorem jv_k191 : jv_ck2 (jv_ym 191).2.1 0 jv_c191 = true := jv_fast (by decide +kernel)
theorem jv_k192 : jv_ck2 (jv_ym 192).2.1 0 jv_c192 = true := jv_fast (by decide +kernel)
theorem jv_k193 : jv_ck2 (jv_ym 193).2.1 0 jv_c193 = true := jv_fast (by decide +kernel)
theorem jv_k194 : jv_ck2 (jv_ym 194).2.1 0 jv_c194 = true := jv_fast (by decide +kernel)
theorem jv_k195 : jv_ck2 (jv_ym 195).2.1 0 jv_c195 = true := jv_fast (by decide +kernel)
theorem jv_k196 : jv_ck2 (jv_ym 196).2.1 0 jv_c196 = true := jv_fast (by decide +kernel)
theorem jv_k197 : jv_ck2 (jv_ym 197).2.1 0 jv_c197 = true := jv_fast (by decide +kernel)
theorem jv_k198 : jv_ck2 (jv_ym 198).2.1 0 jv_c198 = true := jv_fast (by decide +kernel)
theorem jv_k199 : jv_ck2 (jv_ym 199).2.1 0 jv_c199 = true := jv_fast (by decide +kernel)
theorem jv_k200 : jv_ck2 (jv_ym 200).2.1 0 jv_c200 = true := jv_fast (by decide +kernel)
theorem jv_k201 : jv_ck2 (jv_ym 201).2.1 0 jv_c201 = true := jv_fast (by decide +kernel)
theorem jv_k202 : jv_ck2 (jv_ym 202).2.1 0 jv_c202 = true := jv_fast (by decide +kernel)
theorem jv_k203 : jv_ck2 (jv_ym 203).2.1 0 jv_c203 = true := jv_fast (by decide +kernel)
end
section
theorem jv_k204 : jv_ck2 (jv_ym 204).2.1 0 jv_c204 = true := jv_fast (by decide +kernel)
theorem jv_k205 : jv_ck2 (jv_ym 205).2.1 0 jv_c205 = true := jv_fast (by decide +kernel)
theorem jv_k206 : jv_ck2 (jv_ym 206).2.1 0 jv_c206 = true := jv_fast (by decide +kernel)
theorem jv_k207 : jv_ck2 (jv_ym 207).2.1 0 jv_c207 = true := jv_fast (by decide +kernel)
theorem jv_k208 : jv_ck2 (jv_ym 208).2.1 0 jv_c208 = true := jv_fast (by decide +kernel)
theorem jv_k209 : jv_ck2 (jv_ym 209).2.1 0 jv_c209 = true := jv_fast (by decide +kernel)
theorem jv_k210 : jv_ck2 (jv_ym 210).2.1 0 jv_c210 = true := jv_fast (by decide +kernel)
theorem jv_k211 : jv_ck2 (jv_ym 211).2.1 0 jv_c211 = true := jv_fast (by decide +kernel)
theorem jv_k212 : jv_ck2 (jv_ym 212).2.1 0 jv_c212 = true := jv_fast (by decide +kernel)
theorem jv_k213 : jv_ck2 (jv_ym 213).2.1 0 jv_c213 = true := jv_fast (by decide +kernel)
theorem jv_k214 : jv_ck2 (jv_ym 214).2.1 0 jv_c214 = true := jv_fast (by decide +kernel)
theorem jv_k215 : jv_ck2 (jv_ym 215).2.1 0 jv_c215 = true := jv_fast (by decide +kernel)
theorem jv_k216 : jv_ck2 (jv_ym 216).2.1 0 jv_c216 = true := jv_fast (by decide +kernel)
theorem jv_k217 : jv_ck2 (jv_ym 217).2.1 0 jv_c217 = true := jv_fast (by decide +kernel)
theorem jv_k218 : jv_ck2 (jv_ym 218).2.1 0 jv_c218 = true := jv_fast (by decide +kernel)
theorem jv_k219 : jv_ck2 (jv_ym 219).2.1 0 jv_c219 = true := jv_fast (by decide +kernel)
theorem jv_k220 : jv_ck2 (jv_ym 220).2.1 0 jv_c220 = true := jv_fast (by decide +kernel)
theorem jv_k221 : jv_ck2 (jv_ym 221).2.1 0 jv_c221 = true := jv_fast (by decide +kernel)
theorem jv_k222 : jv_ck2 (jv_ym 222).2.1 0 jv_c222 = true := jv_fast (by decide +kernel)
theorem jv_k223 : jv_ck2 (jv_ym 223).2.1 0 jv_c223 = true := jv_fast (by decide +kernel)
theorem jv_k224 : jv_ck2 (jv_ym 224).2.1 0 jv_c224 = true := jv_fast (by decide +kernel)
theorem jv_k225 : jv_ck2 (jv_ym 225).2.1 0 jv_c225 = true := jv_fast (by decide +kernel)
theorem jv_k226 : jv_ck2 (jv_ym 226).2.1 0 jv_c226 = true := jv_fast (by decide +kernel)
theorem jv_k227 : jv_ck2 (jv_ym 227).2.1 0 jv_c227 = true := jv_fast (by decide +kernel)
theorem jv_k228 : jv_ck2 (jv_ym 228).2.1 0 jv_c228 = true := jv_fast (by decide +kernel)
theorem jv_k229 : jv_ck2 (jv_ym 229).2.1 0 jv_c229 = true := jv_fast (by decide +kernel)
theorem jv_k230 : jv_ck2 (jv_ym 230).2.1 0 jv_c230 = true := jv_fast (by decide +kernel)
theorem jv_k231 : jv_ck2 (jv_ym 231).2.1 0 jv_c231 = true := jv_fast (by decide +kernel)
theorem jv_k232 : jv_ck2 (jv_ym 232).2.1 0 jv_c232 = true := jv_fast (by decide +kernel)
theorem jv_k233 : jv_ck2 (jv_ym 233).2.1 0 jv_c233 = true := jv_fast (by decide +kernel)
theorem jv_k234 : jv_ck2 (jv_ym 234).2.1 0 jv_c234 = true := jv_fast (by decide +kernel)
theorem jv_k235 : jv_ck2 (jv_ym 235).2.1 0 jv_c235 = true := jv_fast (by decide +kernel)
theorem jv_k236 : jv_ck2 (jv_ym 236).2.1 0 jv_c236 = true := jv_fast (by decide +kernel)
theorem jv_k237 : jv_ck2 (jv_ym 237).2.1 0 jv_c237 = true := jv_fast (by decide +kernel)
theorem jv_k238 : jv_ck2 (jv_ym 238).2.1 0 jv_c238 = true := jv_fast (by decide +kernel)
theorem jv_k239 : jv_ck2 (jv_ym 239).2.1 0 jv_c239 = true := jv_fast (by decide +kernel)
theorem jv_k240 : jv_ck2 (jv_ym 240).2.1 0 jv_c240 = true := jv_fast (by decide +kernel)
theorem jv_k241 : jv_ck2 (jv_ym 241).2.1 0 jv_c241 = true := jv_fast (by decide +kernel)
theorem jv_k242 : jv_ck2 (jv_ym 242).2.1 0 jv_c242 = true := jv_fast (by decide +kernel)
theorem jv_k243 : jv_ck2 (jv_ym 243).2.1 0 jv_c243 = true := jv_fast (by decide +kernel)
theorem jv_k244 : jv_ck2 (jv_ym 244).2.1 0 jv_c244 = true := jv_fast (by decide +kernel)
theorem jv_k245 : jv_ck2 (jv_ym 245).2.1 0 jv_c245 = true := jv_fast (by decide +kernel)
theorem jv_k246 : jv_ck2 (jv_ym 246).2.1 0 jv_c246 = true := jv_fast (by decide +kernel)
theorem jv_k247 : jv_ck2 (jv_ym 247).2.1 0 jv_c247 = true := jv_fast (by decide +kernel)
theorem jv_k248 : jv_ck2 (jv_ym 248).2.1 0 jv_c248 = true := jv_fast (by decide +kernel)
theorem jv_k249 : jv_ck2 (jv_ym 249).2.1 0 jv_c249 = true := jv_fast (by decide +kernel)
theorem jv_k250 : jv_ck2 (jv_ym 250).2.1 0 jv_c250 = true := jv_fast (by decide +kernel)
theorem jv_k251 : jv_ck2 (jv_ym 251).2.1 0 jv_c251 = true := jv_fast (by decide +kernel)
theorem jv_k252 : jv_ck2 (jv_ym 252).2.1 0 jv_c252 = true := jv_fast (by decide +kernel)
theorem jv_k253 : jv_ck2 (jv_ym 253).2.1 0 jv_c253 = true := jv_fast (by decide +kernel)
theorem jv_k254 : jv_ck2 (jv_ym 254).2.1 0 jv_c254 = true := jv_fast (by decide +kernel)
theorem jv_k255 : jv_ck2 (jv_ym 255).2.1 0 jv_c255 = true := jv_fast (by decide +kernel)
theorem jv_k256 : jv_ck2 (jv_ym 256).2.1 0 jv_c256 = true := jv_fast (by decide +kernel)
theorem jv_k257 : jv_ck2 (jv_ym 257).2.1 0 jv_c257 = true := jv_fast (by decide +kernel)
theorem jv_k258 : jv_ck2 (jv_ym 258).2.1 0 jv_c258 = true := jv_fast (by decide +kernel)
theorem jv_k259 : jv_ck2 (jv_ym 259).2.1 0 jv_c259 = true := jv_fast (by decide +kernel)
theorem jv_k260 : jv_ck2 (jv_ym 260).2.1 0 jv_c260 = true := jv_fast (by decide +kernel)
theorem jv_k261 : jv_ck2 (jv_ym 261).2.1 0 jv_c261 = true := jv_fast (by decide +kernel)
theorem jv_k262 : jv_ck2 (jv_ym 262).2.1 0 jv_c262 = true := jv_fast (by decide +kernel)
theorem jv_k263 : jv_ck2 (jv_ym 263).2.1 0 jv_c263 = true := jv_fast (by decide +kernel)
theorem jv_k264 : jv_ck2 (jv_ym 264).2.1 0 jv_c264 = true := jv_fast (by decide +kernel)
theorem jv_k265 : jv_ck2 (jv_ym 265).2.1 0 jv_c265 = true := jv_fast (by decide +kernel)
theorem jv_k266 : jv_ck2 (jv_ym 266).2.1 0 jv_c266 = true := jv_fast (by decide +kernel)
theorem jv_k267 : jv_ck2 (jv_ym 267).2.1 0 jv_c267 = true := jv_fast (by decide +kernel)
theorem jv_k268 : jv_ck2 (jv_ym 268).2.1 0 jv_c268 = true := jv_fast (by decide +kernel)
theorem jv_k269 : jv_ck2 (jv_ym 269).2.1 0 jv_c269 = true := jv_fast (by decide +kernel)
theorem jv_k270 : jv_ck2 (jv_ym 270).2.1 0 jv_c270 = true := jv_fast (by decide +kernel)
theorem jv_k271 : jv_ck2 (jv_ym 271).2.1 0 jv_c271 = true := jv_fast (by decide +kernel)
end
section

end
end
section
section

end
section

end
section
theorem jv_g0 : jv_ck3 0 [jv_c0, jv_c1, jv_c2, jv_c3, jv_c4, jv_c5, jv_c6, jv_c7, jv_c8, jv_c9, jv_c10, jv_c11, jv_c12, jv_c13, jv_c14, jv_c15] = true := jv_and jv_k0 (jv_and jv_k1 (jv_and jv_k2 (jv_and jv_k3 (jv_and jv_k4 (jv_and jv_k5 (jv_and jv_k6 (jv_and jv_k7 (jv_and jv_k8 (jv_and jv_k9 (jv_and jv_k10 (jv_and jv_k11 (jv_and jv_k12 (jv_and jv_k13 (jv_and jv_k14 (jv_and jv_k15 (rfl))))))))))))))))
theorem jv_g1 : jv_ck3 16 [jv_c16, jv_c17, jv_c18, jv_c19, jv_c20, jv_c21, jv_c22, jv_c23, jv_c24, jv_c25, jv_c26, jv_c27, jv_c28, jv_c29, jv_c30, jv_c31] = true := jv_and jv_k16 (jv_and jv_k17 (jv_and jv_k18 (jv_and jv_k19 (jv_and jv_k20 (jv_and jv_k21 (jv_and jv_k22 (jv_and jv_k23 (jv_and jv_k24 (jv_and jv_k25 (jv_and jv_k26 (jv_and jv_k27 (jv_and jv_k28 (jv_and jv_k29 (jv_and jv_k30 (jv_and jv_k31 (rfl))))))))))))))))
theorem jv_g2 : jv_ck3 32 [jv_c32, jv_c33, jv_c34, jv_c35, jv_c36, jv_c37, jv_c38, jv_c39, jv_c40, jv_c41, jv_c42, jv_c43, jv_c44, jv_c45, jv_c46, jv_c47] = true := jv_and jv_k32 (jv_and jv_k33 (jv_and jv_k34 (jv_and jv_k35 (jv_and jv_k36 (jv_and jv_k37 (jv_and jv_k38 (jv_and jv_k39 (jv_and jv_k40 (jv_and jv_k41 (jv_and jv_k42 (jv_and jv_k43 (jv_and jv_k44 (jv_and jv_k45 (jv_and jv_k46 (jv_and jv_k47 (rfl))))))))))))))))
theorem jv_g3 : jv_ck3 48 [jv_c48, jv_c49, jv_c50, jv_c51, jv_c52, jv_c53, jv_c54, jv_c55, jv_c56, jv_c57, jv_c58, jv_c59, jv_c60, jv_c61, jv_c62, jv_c63] = true := jv_and jv_k48 (jv_and jv_k49 (jv_and jv_k50 (jv_and jv_k51 (jv_and jv_k52 (jv_and jv_k53 (jv_and jv_k54 (jv_and jv_k55 (jv_and jv_k56 (jv_and jv_k57 (jv_and jv_k58 (jv_and jv_k59 (jv_and jv_k60 (jv_and jv_k61 (jv_and jv_k62 (jv_and jv_k63 (rfl))))))))))))))))
theorem jv_g4 : jv_ck3 64 [jv_c64, jv_c65, jv_c66, jv_c67, jv_c68, jv_c69, jv_c70, jv_c71, jv_c72, jv_c73, jv_c74, jv_c75, jv_c76, jv_c77, jv_c78, jv_c79] = true := jv_and jv_k64 (jv_and jv_k65 (jv_and jv_k66 (jv_and jv_k67 (jv_and jv_k68 (jv_and jv_k69 (jv_and jv_k70 (jv_and jv_k71 (jv_and jv_k72 (jv_and jv_k73 (jv_and jv_k74 (jv_and jv_k75 (jv_and jv_k76 (jv_and jv_k77 (jv_and jv_k78 (jv_and jv_k79 (rfl))))))))))))))))
theorem jv_g5 : jv_ck3 80 [jv_c80, jv_c81, jv_c82, jv_c83, jv_c84, jv_c85, jv_c86, jv_c87, jv_c88, jv_c89, jv_c90, jv_c91, jv_c92, jv_c93, jv_c94, jv_c95] = true := jv_and jv_k80 (jv_and jv_k81 (jv_and jv_k82 (jv_and jv_k83 (jv_and jv_k84 (jv_and jv_k85 (jv_and jv_k86 (jv_and jv_k87 (jv_and jv_k88 (jv_and jv_k89 (jv_and jv_k90 (jv_and jv_k91 (jv_and jv_k92 (jv_and jv_k93 (jv_and jv_k94 (jv_and jv_k95 (rfl))))))))))))))))
theorem jv_g6 : jv_ck3 96 [jv_c96, jv_c97, jv_c98, jv_c99, jv_c100, jv_c101, jv_c102, jv_c103, jv_c104, jv_c105, jv_c106, jv_c107, jv_c108, jv_c109, jv_c110, jv_c111] = true := jv_and jv_k96 (jv_and jv_k97 (jv_and jv_k98 (jv_and jv_k99 (jv_and jv_k100 (jv_and jv_k101 (jv_and jv_k102 (jv_and jv_k103 (jv_and jv_k104 (jv_and jv_k105 (jv_and jv_k106 (jv_and jv_k107 (jv_and jv_k108 (jv_and jv_k109 (jv_and jv_k110 (jv_and jv_k111 (rfl))))))))))))))))
theorem jv_g7 : jv_ck3 112 [jv_c112, jv_c113, jv_c114, jv_c115, jv_c116, jv_c117, jv_c118, jv_c119, jv_c120, jv_c121, jv_c122, jv_c123, jv_c124, jv_c125, jv_c126, jv_c127] = true := jv_and jv_k112 (jv_and jv_k113 (jv_and jv_k114 (jv_and jv_k115 (jv_and jv_k116 (jv_and jv_k117 (jv_and jv_k118 (jv_and jv_k119 (jv_and jv_k120 (jv_and jv_k121 (jv_and jv_k122 (jv_and jv_k123 (jv_and jv_k124 (jv_and jv_k125 (jv_and jv_k126 (jv_and jv_k127 (rfl))))))))))))))))
theorem jv_g8 : jv_ck3 128 [jv_c128, jv_c129, jv_c130, jv_c131, jv_c132, jv_c133, jv_c134, jv_c135, jv_c136, jv_c137, jv_c138, jv_c139, jv_c140, jv_c141, jv_c142, jv_c143] = true := jv_and jv_k128 (jv_and jv_k129 (jv_and jv_k130 (jv_and jv_k131 (jv_and jv_k132 (jv_and jv_k133 (jv_and jv_k134 (jv_and jv_k135 (jv_and jv_k136 (jv_and jv_k137 (jv_and jv_k138 (jv_and jv_k139 (jv_and jv_k140 (jv_and jv_k141 (jv_and jv_k142 (jv_and jv_k143 (rfl))))))))))))))))
theorem jv_g9 : jv_ck3 144 [jv_c144, jv_c145, jv_c146, jv_c147, jv_c148, jv_c149, jv_c150, jv_c151, jv_c152, jv_c153, jv_c154, jv_c155, jv_c156, jv_c157, jv_c158, jv_c159] = true := jv_and jv_k144 (jv_and jv_k145 (jv_and jv_k146 (jv_and jv_k147 (jv_and jv_k148 (jv_and jv_k149 (jv_and jv_k150 (jv_and jv_k151 (jv_and jv_k152 (jv_and jv_k153 (jv_and jv_k154 (jv_and jv_k155 (jv_and jv_k156 (jv_and jv_k157 (jv_and jv_k158 (jv_and jv_k159 (rfl))))))))))))))))
theorem jv_g10 : jv_ck3 160 [jv_c160, jv_c161, jv_c162, jv_c163, jv_c164, jv_c165, jv_c166, jv_c167, jv_c168, jv_c169, jv_c170, jv_c171, jv_c172, jv_c173, jv_c174, jv_c175] = true := jv_and jv_k160 (jv_and jv_k161 (jv_and jv_k162 (jv_and jv_k163 (jv_and jv_k164 (jv_and jv_k165 (jv_and jv_k166 (jv_and jv_k167 (jv_and jv_k168 (jv_and jv_k169 (jv_and jv_k170 (jv_and jv_k171 (jv_and jv_k172 (jv_and jv_k173 (jv_and jv_k174 (jv_and jv_k175 (rfl))))))))))))))))
theorem jv_g11 : jv_ck3 176 [jv_c176, jv_c177, jv_c178, jv_c179, jv_c180, jv_c181, jv_c182, jv_c183, jv_c184, jv_c185, jv_c186, jv_c187, jv_c188, jv_c189, jv_c190, jv_c191] = true := jv_and jv_k176 (jv_and jv_k177 (jv_and jv_k178 (jv_and jv_k179 (jv_and jv_k180 (jv_and jv_k181 (jv_and jv_k182 (jv_and jv_k183 (jv_and jv_k184 (jv_and jv_k185 (jv_and jv_k186 (jv_and jv_k187 (jv_and jv_k188 (jv_and jv_k189 (jv_and jv_k190 (jv_and jv_k191 (rfl))))))))))))))))
theorem jv_g12 : jv_ck3 192 [jv_c192, jv_c193, jv_c194, jv_c195, jv_c196, jv_c197, jv_c198, jv_c199, jv_c200, jv_c201, jv_c202, jv_c203, jv_c204, jv_c205, jv_c206, jv_c207] = true := jv_and jv_k192 (jv_and jv_k193 (jv_and jv_k194 (jv_and jv_k195 (jv_and jv_k196 (jv_and jv_k197 (jv_and jv_k198 (jv_and jv_k199 (jv_and jv_k200 (jv_and jv_k201 (jv_and jv_k202 (jv_and jv_k203 (jv_and jv_k204 (jv_and jv_k205 (jv_and jv_k206 (jv_and jv_k207 (rfl))))))))))))))))
theorem jv_g13 : jv_ck3 208 [jv_c208, jv_c209, jv_c210, jv_c211, jv_c212, jv_c213, jv_c214, jv_c215, jv_c216, jv_c217, jv_c218, jv_c219, jv_c220, jv_c221, jv_c222, jv_c223] = true := jv_and jv_k208 (jv_and jv_k209 (jv_and jv_k210 (jv_and jv_k211 (jv_and jv_k212 (jv_and jv_k213 (jv_and jv_k214 (jv_and jv_k215 (jv_and jv_k216 (jv_and jv_k217 (jv_and jv_k218 (jv_and jv_k219 (jv_and jv_k220 (jv_and jv_k221 (jv_and jv_k222 (jv_and jv_k223 (rfl))))))))))))))))
theorem jv_g14 : jv_ck3 224 [jv_c224, jv_c225, jv_c226, jv_c227, jv_c228, jv_c229, jv_c230, jv_c231, jv_c232, jv_c233, jv_c234, jv_c235, jv_c236, jv_c237, jv_c238, jv_c239] = true := jv_and jv_k224 (jv_and jv_k225 (jv_and jv_k226 (jv_and jv_k227 (jv_and jv_k228 (jv_and jv_k229 (jv_and jv_k230 (jv_and jv_k231 (jv_and jv_k232 (jv_and jv_k233 (jv_and jv_k234 (jv_and jv_k235 (jv_and jv_k236 (jv_and jv_k237 (jv_and jv_k238 (jv_and jv_k239 (rfl))))))))))))))))
theorem jv_g15 : jv_ck3 240 [jv_c240, jv_c241, jv_c242, jv_c243, jv_c244, jv_c245, jv_c246, jv_c247, jv_c248, jv_c249, jv_c250, jv_c251, jv_c252, jv_c253, jv_c254, jv_c255] = true := jv_and jv_k240 (jv_and jv_k241 (jv_and jv_k242 (jv_and jv_k243 (jv_and jv_k244 (jv_and jv_k245 (jv_and jv_k246 (jv_and jv_k247 (jv_and jv_k248 (jv_and jv_k249 (jv_and jv_k250 (jv_and jv_k251 (jv_and jv_k252 (jv_and jv_k253 (jv_and jv_k254 (jv_and jv_k255 (rfl))))))))))))))))
theorem jv_g16 : jv_ck3 256 [jv_c256, jv_c257, jv_c258, jv_c259, jv_c260, jv_c261, jv_c262, jv_c263, jv_c264, jv_c265, jv_c266, jv_c267, jv_c268, jv_c269, jv_c270, jv_c271] = true := jv_and jv_k256 (jv_and jv_k257 (jv_and jv_k258 (jv_and jv_k259 (jv_and jv_k260 (jv_and jv_k261 (jv_and jv_k262 (jv_and jv_k263 (jv_and jv_k264 (jv_and jv_k265 (jv_and jv_k266 (jv_and jv_k267 (jv_and jv_k268 (jv_and jv_k269 (jv_and jv_k270 (jv_and jv_k271 (rfl))))))))))))))))
theorem jv_ck : jv_ck4 0 jv_prog = true := jv_and jv_g0 (jv_and jv_g1 (jv_and jv_g2 (jv_and jv_g3 (jv_and jv_g4 (jv_and jv_g5 (jv_and jv_g6 (jv_and jv_g7 (jv_and jv_g8 (jv_and jv_g9 (jv_and jv_g10 (jv_and jv_g11 (jv_and jv_g12 (jv_and jv_g13 (jv_and jv_g14 (jv_and jv_g15 (jv_and jv_g16 (rfl)))))))))))))))))
/-- the tables tell the code -/
theorem jv_code_ok {y pc : Nat} {i : Instr} {len : Nat} (h : jv_code y pc = some (i, len)) : decode (jv_ym y).2.1 pc = .ok (i, len) ∧ (jv_sw i = true ∨ len = jv_len i) := by
  unfold jv_code at h
  split at h
  · cases h
  · rename_i a ha
    split at h
    · cases h
    · rename_i b hb
      split at h
      · cases h
      · rename_i c hc
        split at h
        · cases h
        · rename_i d hd
          have h1 := jv_ck4_of _ 0 _ jv_ck ha
          have h2 := jv_ck3_of _ _ _ h1 hb
          have h3 := jv_ck2_of _ 0 _ _ h2 hc (hd.trans (congrArg some h))
          rw [show 0 + 16 * (y / 16) + y % 16 = y by omega, show 0 + 16 * (pc / 16) + pc % 16 = pc by omega] at h3
          exact h3
end
end
section
/-! THE TABLES' WORDS, by their places in lw_tbl: printed by wip/gen/words.py -/
/-- the words that every method here is given -/
def jv_T : List Cond := lw_tbl.filter goodWord
/-- words alike: a method's bytes are compared as a list (in an array each place costs its number) -/
theorem jv_bytes {a b : ByteArray} (h : a.data.toList = b.data.toList) : a = b := by
  cases a
  cases b
  exact congrArg ByteArray.mk (Array.toList_inj.mp h)
def jv_eqw (u w : Cond) : Bool := match u with
  | .code n b m r => (match w with
    | .code n' b' m' r' => decide (n = n') && (decide (b.data.toList = b'.data.toList) && (decide (m = m') && decide (r = r')))
    | _ => false)
  | _ => decide (u = w)
theorem jv_eqw_ok {u w : Cond} (h : jv_eqw u w = true) : u = w := by
  unfold jv_eqw at h
  split at h
  · split at h
    · simp only [Bool.and_eq_true, decide_eq_true_eq] at h
      obtain ⟨h1, h2, h3, h4⟩ := h
      have h2 := jv_bytes h2
      subst h1 h2 h3 h4
      rfl
    · cases h
  · exact of_decide_eq_true h
/-- the tables one by one: a word by its table and its place there -/
def jv_tab (k : Nat) : List Cond := match k with
  | 0 => k2_sels lw_privs
  | 1 => tables_1_1
  | 2 => tables_1_2
  | 3 => tables_1_3
  | 4 => tables_1_4
  | 5 => tables_1_5
  | 6 => tables_1_6
  | 7 => tables_1_7
  | _ => []
theorem jv_tab_in {k : Nat} {w : Cond} (h : w ∈ jv_tab k) : w ∈ lw_tbl := by
  unfold lw_tbl tables_1
  simp only [List.mem_append]
  match k, h with
  | 0, h => exact Or.inl h
  | 1, h => exact Or.inr (Or.inl h)
  | 2, h => exact Or.inr (Or.inr (Or.inl h))
  | 3, h => exact Or.inr (Or.inr (Or.inr (Or.inl h)))
  | 4, h => exact Or.inr (Or.inr (Or.inr (Or.inr (Or.inl h))))
  | 5, h => exact Or.inr (Or.inr (Or.inr (Or.inr (Or.inr (Or.inl h)))))
  | 6, h => exact Or.inr (Or.inr (Or.inr (Or.inr (Or.inr (Or.inr (Or.inl h))))))
  | 7, h => exact Or.inr (Or.inr (Or.inr (Or.inr (Or.inr (Or.inr (Or.inr (h)))))))
  | k + 8, h => cases h
def jv_inw (i : Nat) (w : Cond) : Bool := match (jv_tab (i / 1024))[i % 1024]? with
  | some u => jv_eqw u w
  | none => false
theorem jv_inw_ok {i : Nat} {w : Cond} (h : jv_inw i w = true) : w ∈ lw_tbl := by
  unfold jv_inw at h
  split at h
  · rename_i u e
    have e2 := jv_eqw_ok h
    subst e2
    exact jv_tab_in (List.mem_of_getElem? e)
  · cases h
def jv_in (i : Nat) (w : Cond) : Bool := jv_inw i w && goodWord w
theorem jv_in_ok {i : Nat} {w : Cond} (h : jv_in i w = true) : w ∈ jv_T := by
  simp only [jv_in, Bool.and_eq_true] at h
  exact List.mem_filter.mpr ⟨jv_inw_ok h.1, h.2⟩
theorem jv_as_mem {α : Type} {n : Nat} {v : α} : ∀ (l : List (Nat × α)), jv_as l n = some v → (n, v) ∈ l
  | [], h => by cases h
  | a :: l, h => by
    unfold jv_as at h
    split at h
    · rename_i e
      cases h
      rw [← e]
      exact List.mem_cons_self
    · exact List.mem_cons_of_mem _ (jv_as_mem l h)
def jv_byt : List (List Int32) := [[116, 114, 97, 105, 110], [102, 105, 114, 115, 116], [115, 101, 97, 116], [116, 105, 99, 107, 101, 116], [102, 97, 109, 105, 108, 121], [119, 105, 110, 100, 111, 119], [97, 104, 101, 97, 100], [114, 111, 119], [115, 119, 101, 101, 116, 115], [115, 116, 111, 112], [116, 114, 97, 105, 110, 32], [32, 102, 105, 114, 115, 116, 32], [115, 101, 97, 116, 32], [32, 116, 105, 99, 107, 101, 116], [32, 102, 97, 109, 105, 108, 121, 32], [32, 119, 105, 110, 100, 111, 119, 32], [32, 97, 104, 101, 97, 100, 32], [32, 114, 111, 119, 32], [32, 115, 119, 101, 101, 116, 115, 32], [32, 115, 116, 111, 112, 32]]
def jv_lens : List Nat := [5, 5, 4, 6, 6, 6, 5, 3, 6, 4, 6, 7, 5, 7, 8, 8, 7, 5, 8, 6]
/-- which text lies at a place: 1000001 + its number -/
def jv_tix (a : Nat) : Option Nat := (List.range 20).find? (fun i => Nat.beq a (1000001 + i))
theorem jv_tix_eq {a i : Nat} (h : jv_tix a = some i) : i < 20 ∧ a = 1000001 + i := by
  unfold jv_tix at h
  exact ⟨List.mem_range.mp (List.mem_of_find?_eq_some h), Nat.eq_of_beq_eq_true (List.find?_some (p := fun i => Nat.beq a (1000001 + i)) h)⟩
def jv_hm0 : List (List Nat) := [[1196, 1195, 0, 1031], [2140, 2138, 2139, 1031], [3097, 3095, 3096, 1031], [3148, 3147, 19, 1031], [3153, 3152, 20, 1031], [3144, 3142, 3143, 1031], [4267, 4265, 4266, 1031], [2055, 2054, 0, 1032], [3101, 3099, 3100, 1032], [3130, 3129, 18, 1032], [3126, 3124, 3125, 1032], [4106, 4104, 4105, 1032], [1051, 1050, 0, 1026], [2155, 2154, 0, 1026], [2144, 2143, 1, 1026], [2148, 2147, 2, 1026]]
def jv_hm1 : List (List Nat) := [[2229, 2228, 8, 1026], [2164, 2163, 4, 1026], [2274, 2273, 14, 1026], [2270, 2269, 13, 1026], [2266, 2265, 12, 1026], [2224, 2223, 7, 1026], [2216, 2215, 5, 1026], [2160, 2159, 3, 1026], [2285, 2284, 15, 1026], [2220, 2219, 6, 1026], [3073, 3072, 16, 1026], [2242, 2241, 10, 1026], [2262, 2261, 11, 1026], [3120, 3118, 3119, 1026], [3139, 3137, 3138, 1026], [2132, 2130, 2131, 1026]]
def jv_hm2 : List (List Nat) := [[2233, 2232, 9, 1026], [1169, 1168, 0, 1029], [4301, 4299, 4300, 1029], [4323, 4322, 33, 1029], [4331, 4330, 34, 1029], [5120, 4335, 35, 1029], [4316, 4315, 32, 1029], [4306, 4305, 30, 1029], [4312, 4311, 31, 1029], [1057, 1056, 0, 1027], [2109, 2107, 2108, 1027], [2113, 2111, 2112, 1027], [2117, 2116, 0, 1027], [2152, 2150, 2151, 1027], [1187, 1186, 0, 1030], [2136, 2134, 2135, 1030]]
def jv_hm3 : List (List Nat) := [[3093, 3091, 3092, 1030], [2254, 2252, 2253, 1030], [2258, 2256, 2257, 1030], [4123, 4121, 4122, 1030], [3114, 3112, 3113, 1030], [3161, 3159, 3160, 1030], [3165, 3163, 3164, 1030], [2250, 2248, 2249, 1030], [2246, 2244, 2245, 1030], [3077, 3075, 3076, 1030], [3198, 3196, 3197, 1030], [3182, 3180, 3181, 1030], [3215, 3214, 22, 1030], [3089, 3088, 17, 1030], [3081, 3079, 3080, 1030], [3306, 3305, 27, 1030]]
def jv_hm4 : List (List Nat) := [[3302, 3300, 3301, 1030], [3207, 3205, 3206, 1030], [3203, 3201, 3202, 1030], [3211, 3209, 3210, 1030], [3221, 3220, 0, 1030], [3292, 3290, 3291, 1030], [4115, 4113, 4114, 1030], [4140, 4138, 4139, 1030], [4198, 4196, 4197, 1030], [4165, 4164, 28, 1030], [4161, 4159, 4160, 1030], [4169, 4167, 4168, 1030], [4173, 4171, 4172, 1030], [4177, 4175, 4176, 1030], [4131, 4129, 4130, 1030], [4186, 4184, 4185, 1030]]
def jv_hm5 : List (List Nat) := [[4190, 4188, 4189, 1030], [4127, 4125, 4126, 1030], [4119, 4117, 4118, 1030], [3229, 3228, 24, 1030], [3225, 3224, 23, 1030], [3268, 3267, 25, 1030], [3236, 3234, 3235, 1030], [4219, 4217, 4218, 1030], [3194, 3192, 3193, 1030], [3240, 3238, 3239, 1030], [3249, 3247, 3248, 1030], [3256, 3254, 3255, 1030], [3264, 3262, 3263, 1030], [3272, 3270, 3271, 1030], [3276, 3274, 3275, 1030], [4249, 4247, 4248, 1030]]
def jv_hm6 : List (List Nat) := [[4231, 4229, 4230, 1030], [4240, 4238, 4239, 1030], [3288, 3286, 3287, 1030], [4288, 4286, 4287, 1030], [4292, 4291, 29, 1030], [1073, 1072, 0, 1028], [2237, 2235, 2236, 1028], [3085, 3083, 3084, 1028], [3170, 3168, 3169, 1028], [3174, 3172, 3173, 1028], [4148, 4146, 4147, 1028], [1043, 1042, 0, 1025], [2105, 2103, 2104, 1025], [2121, 2119, 2120, 1025], [2128, 2126, 2127, 1025], [3106, 3104, 3105, 1025]]
def jv_hm7 : List (List Nat) := [[3110, 3108, 3109, 1025], [3157, 3155, 3156, 1025], [3178, 3176, 3177, 1025], [3186, 3184, 3185, 1025], [3245, 3243, 3244, 1025], [3260, 3258, 3259, 1025], [3280, 3278, 3279, 1025], [3298, 3296, 3297, 1025], [3310, 3308, 3309, 1025], [4098, 4096, 4097, 1025], [4102, 4100, 4101, 1025], [4110, 4108, 4109, 1025], [4135, 4133, 4134, 1025], [4144, 4142, 4143, 1025], [4152, 4150, 4151, 1025], [4157, 4155, 4156, 1025]]
def jv_hm8 : List (List Nat) := [[4181, 4179, 4180, 1025], [4194, 4192, 4193, 1025], [4203, 4201, 4202, 1025], [4207, 4205, 4206, 1025], [4211, 4209, 4210, 1025], [4215, 4213, 4214, 1025], [4223, 4221, 4222, 1025], [4227, 4225, 4226, 1025], [4236, 4234, 4235, 1025], [4245, 4243, 4244, 1025], [4255, 4253, 4254, 1025], [4259, 4257, 4258, 1025], [4263, 4261, 4262, 1025], [4271, 4269, 4270, 1025], [4275, 4273, 4274, 1025], [4279, 4277, 4278, 1025]]
def jv_hm9 : List (List Nat) := [[4283, 4281, 4282, 1025], [4297, 4295, 4296, 1025], [5129, 5127, 5128, 1025], [2124, 2123, 0, 1025], [3232, 3231, 0, 1025], [3190, 3189, 21, 1025], [3284, 3283, 26, 1025], [5134, 5133, 0, 1033], [5241, 5240, 0, 1033], [5291, 5290, 0, 1033], [6189, 6188, 54, 1033], [5253, 5252, 0, 1033], [5319, 5318, 51, 1033], [5303, 5302, 48, 1033], [5341, 5340, 53, 1033], [5344, 5343, 0, 1033]]
def jv_hm10 : List (List Nat) := [[5288, 5287, 0, 1033], [5359, 5358, 0, 1033], [6149, 6148, 0, 1033], [6152, 6151, 0, 1033], [6239, 6238, 0, 1033], [5250, 5249, 0, 1033], [5285, 5284, 0, 1033], [5282, 5281, 0, 1033], [6146, 6145, 0, 1033], [5356, 5355, 0, 1033], [5353, 5352, 0, 1033], [6192, 6191, 0, 1033], [6232, 6231, 0, 1033], [6155, 6154, 0, 1033], [6178, 6177, 0, 1033], [5350, 5349, 0, 1033]]
def jv_hm11 : List (List Nat) := [[5347, 5346, 0, 1033], [6165, 6164, 0, 1033], [6175, 6174, 0, 1033], [6172, 6171, 0, 1033], [6181, 6180, 0, 1033], [6201, 6200, 0, 1033], [6198, 6197, 0, 1033], [6195, 6194, 0, 1033], [5193, 5191, 5192, 1033], [5197, 5195, 5196, 1033], [5201, 5199, 5200, 1033], [5213, 5212, 37, 1033], [5221, 5220, 39, 1033], [5209, 5208, 36, 1033], [5217, 5216, 38, 1033], [5225, 5224, 40, 1033]]
def jv_hm12 : List (List Nat) := [[5230, 5229, 41, 1033], [5262, 5261, 0, 1033], [5234, 5233, 42, 1033], [5238, 5237, 43, 1033], [5270, 5269, 45, 1033], [5276, 5275, 46, 1033], [5256, 5255, 0, 1033], [5259, 5258, 0, 1033], [6262, 6261, 0, 1033], [5265, 5264, 0, 1033], [5247, 5246, 44, 1033], [5205, 5203, 5204, 1033], [5311, 5310, 50, 1033], [5307, 5306, 49, 1033], [6158, 6157, 0, 1033], [5299, 5298, 47, 1033]]
def jv_hm13 : List (List Nat) := [[5295, 5293, 5294, 1033], [5326, 5325, 0, 1033], [5323, 5322, 52, 1033], [5315, 5313, 5314, 1033], [5333, 5332, 0, 1033], [5330, 5328, 5329, 1033], [5337, 5335, 5336, 1033], [6162, 6160, 6161, 1033], [6169, 6167, 6168, 1033], [6185, 6183, 6184, 1033], [6213, 6212, 56, 1033], [6209, 6208, 55, 1033], [6205, 6203, 6204, 1033], [6217, 6215, 6216, 1033], [6221, 6219, 6220, 1033], [6225, 6223, 6224, 1033]]
def jv_hm14 : List (List Nat) := [[6236, 6235, 57, 1033], [6247, 6246, 59, 1033], [6243, 6242, 58, 1033], [6229, 6227, 6228, 1033], [6255, 6254, 60, 1033], [6251, 6249, 6250, 1033], [6259, 6257, 6258, 1033], [6266, 6264, 6265, 1033], [6274, 6273, 61, 1033], [6282, 6281, 63, 1033], [6278, 6277, 62, 1033], [6270, 6268, 6269, 1033], [6290, 6289, 64, 1033], [6294, 6293, 65, 1033], [6286, 6284, 6285, 1033], [6298, 6296, 6297, 1033]]
def jv_hm15 : List (List Nat) := [[6302, 6300, 6301, 1033], [6306, 6304, 6305, 1033], [6310, 6308, 6309, 1033], [6314, 6312, 6313, 1033], [6318, 6316, 6317, 1033], [6322, 6320, 6321, 1033], [6326, 6324, 6325, 1033], [6330, 6328, 6329, 1033], [6334, 6332, 6333, 1033], [6338, 6336, 6337, 1033], [6342, 6340, 6341, 1033], [6346, 6344, 6345, 1033], [6350, 6348, 6349, 1033], [6362, 6361, 67, 1033], [6374, 6373, 69, 1033], [6358, 6357, 66, 1033]]
def jv_hm16 : List (List Nat) := [[6366, 6365, 68, 1033], [6354, 6352, 6353, 1033], [6370, 6368, 6369, 1033], [7178, 7177, 73, 1033], [7174, 7173, 72, 1033], [7170, 7169, 71, 1033], [7186, 7185, 75, 1033], [7190, 7189, 76, 1033], [7182, 7181, 74, 1033], [7194, 7193, 77, 1033], [6382, 6381, 70, 1033], [6378, 6376, 6377, 1033], [7198, 7196, 7197, 1033], [3133, 3132, 0, 1038], [3218, 3217, 0, 1038]]
def jv_hms : List (List (List Nat)) := [jv_hm0, jv_hm1, jv_hm2, jv_hm3, jv_hm4, jv_hm5, jv_hm6, jv_hm7, jv_hm8, jv_hm9, jv_hm10, jv_hm11, jv_hm12, jv_hm13, jv_hm14, jv_hm15, jv_hm16]
def jv_hm (y : Nat) : Option (List Nat) := match jv_nth jv_hms (y / 16) with
  | none => none
  | some a => jv_nth a (y % 16)
def jv_ckm (y : Nat) : Bool := match jv_inf y, jv_hm y with
  | some (ow, kd, na, mL, _, _), some [a, b, c, d] =>
    jv_in a (.code (jv_ym y).1 (jv_ym y).2.1 mL (jv_ym y).2.2) && jv_in d (.initialized (jv_ym y).1.cls) && plainFor (jv_ym y).1 &&
    decide ((jv_ym y).1.cls = jv_own ow ∧ ((jv_ym y).1.cls ≠ "java/lang/invoke/MethodHandle" ∧ (jv_ym y).1.cls ≠ "java/lang/invoke/VarHandle" ∧ (parseMethodDescriptor (jv_ym y).1.desc).map (fun d => d.parameters.length) = some (if kd = 0 then na else na - 1)) ∧ na ≤ mL ∧ (kd ≠ 0 → 1 ≤ na)) &&
    (match kd with
     | 0 => jv_in b (.static (jv_ym y).1)
     | 1 => jv_in b (.instanceMethod (jv_ym y).1) && jv_in c (.selects (jv_ym y).1.cls (jv_ym y).1 (jv_ym y).1)
     | _ => jv_in b (.instanceMethod (jv_ym y).1) && decide ((jv_ym y).1.name = "<init>" ∧ (jv_ym y).2.2 = none ∧ kd = 2))
  | _, _ => false
theorem jv_mg0 : ∀ k, k < 16 → jv_ckm (0 + k) = true := by decide +kernel
theorem jv_mg1 : ∀ k, k < 16 → jv_ckm (16 + k) = true := by decide +kernel
theorem jv_mg2 : ∀ k, k < 16 → jv_ckm (32 + k) = true := by decide +kernel
theorem jv_mg3 : ∀ k, k < 16 → jv_ckm (48 + k) = true := by decide +kernel
theorem jv_mg4 : ∀ k, k < 16 → jv_ckm (64 + k) = true := by decide +kernel
theorem jv_mg5 : ∀ k, k < 16 → jv_ckm (80 + k) = true := by decide +kernel
theorem jv_mg6 : ∀ k, k < 16 → jv_ckm (96 + k) = true := by decide +kernel
theorem jv_mg7 : ∀ k, k < 16 → jv_ckm (112 + k) = true := by decide +kernel
theorem jv_mg8 : ∀ k, k < 16 → jv_ckm (128 + k) = true := by decide +kernel
theorem jv_mg9 : ∀ k, k < 16 → jv_ckm (144 + k) = true := by decide +kernel
theorem jv_mg10 : ∀ k, k < 16 → jv_ckm (160 + k) = true := by decide +kernel
theorem jv_mg11 : ∀ k, k < 16 → jv_ckm (176 + k) = true := by decide +kernel
theorem jv_mg12 : ∀ k, k < 16 → jv_ckm (192 + k) = true := by decide +kernel
theorem jv_mg13 : ∀ k, k < 16 → jv_ckm (208 + k) = true := by decide +kernel
theorem jv_mg14 : ∀ k, k < 16 → jv_ckm (224 + k) = true := by decide +kernel
theorem jv_mg15 : ∀ k, k < 16 → jv_ckm (240 + k) = true := by decide +kernel
theorem jv_mg16 : ∀ k, k < 15 → jv_ckm (256 + k) = true := by decide +kernel
theorem jv_ckm_ok (y : Nat) (h : y < 271) : jv_ckm y = true := by
  by_cases h0 : y < 16
  · have := jv_mg0 (y - 0) (by omega); rwa [show 0 + (y - 0) = y by omega] at this
  by_cases h1 : y < 32
  · have := jv_mg1 (y - 16) (by omega); rwa [show 16 + (y - 16) = y by omega] at this
  by_cases h2 : y < 48
  · have := jv_mg2 (y - 32) (by omega); rwa [show 32 + (y - 32) = y by omega] at this
  by_cases h3 : y < 64
  · have := jv_mg3 (y - 48) (by omega); rwa [show 48 + (y - 48) = y by omega] at this
  by_cases h4 : y < 80
  · have := jv_mg4 (y - 64) (by omega); rwa [show 64 + (y - 64) = y by omega] at this
  by_cases h5 : y < 96
  · have := jv_mg5 (y - 80) (by omega); rwa [show 80 + (y - 80) = y by omega] at this
  by_cases h6 : y < 112
  · have := jv_mg6 (y - 96) (by omega); rwa [show 96 + (y - 96) = y by omega] at this
  by_cases h7 : y < 128
  · have := jv_mg7 (y - 112) (by omega); rwa [show 112 + (y - 112) = y by omega] at this
  by_cases h8 : y < 144
  · have := jv_mg8 (y - 128) (by omega); rwa [show 128 + (y - 128) = y by omega] at this
  by_cases h9 : y < 160
  · have := jv_mg9 (y - 144) (by omega); rwa [show 144 + (y - 144) = y by omega] at this
  by_cases h10 : y < 176
  · have := jv_mg10 (y - 160) (by omega); rwa [show 160 + (y - 160) = y by omega] at this
  by_cases h11 : y < 192
  · have := jv_mg11 (y - 176) (by omega); rwa [show 176 + (y - 176) = y by omega] at this
  by_cases h12 : y < 208
  · have := jv_mg12 (y - 192) (by omega); rwa [show 192 + (y - 192) = y by omega] at this
  by_cases h13 : y < 224
  · have := jv_mg13 (y - 208) (by omega); rwa [show 208 + (y - 208) = y by omega] at this
  by_cases h14 : y < 240
  · have := jv_mg14 (y - 224) (by omega); rwa [show 224 + (y - 224) = y by omega] at this
  by_cases h15 : y < 256
  · have := jv_mg15 (y - 240) (by omega); rwa [show 240 + (y - 240) = y by omega] at this
  by_cases h16 : y < 271
  · have := jv_mg16 (y - 256) (by omega); rwa [show 256 + (y - 256) = y by omega] at this
  omega
def jv_hfs : List (List (Nat × Nat)) := [[(11, 1198), (15, 1199), (19, 1200)],
  [(11, 2059), (16, 2061), (20, 2060)],
  [(12, 1144), (21, 1146), (25, 1151), (29, 1149), (36, 1147), (39, 1062), (49, 1150), (129, 1217), (132, 1221), (143, 1082), (148, 1077), (154, 1087), (156, 1092), (161, 1097), (163, 1102), (165, 1107), (167, 1112), (170, 1116), (172, 1122)],
  [(9, 1171), (15, 1173), (18, 1174), (27, 1215), (38, 1219), (44, 1225), (57, 1079), (66, 1084), (73, 1089), (82, 1094), (91, 1099), (94, 1104), (97, 1109), (104, 1114), (109, 1119)],
  [(9, 1059), (13, 1060)],
  [(11, 1209), (18, 1210), (22, 1211), (29, 1212), (33, 1214), (37, 1218), (43, 1222), (46, 1224), (49, 1227), (52, 1229), (55, 1231), (58, 1233), (61, 1235), (83, 1081), (90, 1086), (97, 1091), (108, 1121), (119, 1111), (122, 1106), (130, 1096), (137, 1101), (159, 1117)],
  [(9, 1075), (15, 1078), (18, 1083), (21, 1088), (24, 1093), (27, 1098), (30, 1103), (33, 1108), (36, 1113), (39, 1118)],
  [(10, 2072), (16, 1145), (20, 2071), (24, 2073), (31, 2074), (35, 2075), (41, 2076), (45, 2077), (49, 2078), (56, 2079), (60, 2080), (74, 1061), (85, 1148), (95, 1226), (122, 1076), (125, 1080), (128, 1085), (131, 1090), (134, 1115), (137, 1120), (144, 1213), (172, 1216), (175, 1220), (225, 1228), (228, 1223), (234, 2062), (247, 1230), (250, 1232), (253, 1234), (256, 1236), (265, 1201), (268, 1095), (271, 1100), (274, 1105), (277, 1110), (342, 1172), (343, 1175)],
  [(7, 5136), (13, 5137), (16, 5138), (19, 5139), (22, 5140), (25, 5141), (29, 5143), (32, 5145), (36, 5151), (121, 5144), (124, 5146), (127, 5147), (130, 5149), (133, 5148), (148, 5150), (196, 5142), (289, 5152)],
  [],
  []]
def jv_hf (ow i : Nat) : Nat := ((jv_nth jv_hfs ow).bind (fun a => jv_as a i)).getD 0
def jv_hcs : List (List (Nat × Nat)) := [[(3, 1197), (22, 3149), (28, 3145), (31, 3150)],
  [(1, 2056), (15, 2058), (23, 3131), (29, 3127), (33, 3134)],
  [(3, 1052), (11, 1055), (20, 1071), (33, 2145), (42, 2149), (46, 2153), (52, 2165), (57, 2175), (63, 2161), (85, 2271), (89, 2213), (93, 2221), (96, 2226), (100, 2217), (104, 2243), (110, 2255), (113, 2263), (116, 2267), (119, 2141), (122, 2133), (125, 2157), (134, 2230), (138, 2234), (139, 2239), (145, 2259), (151, 2282), (158, 2286), (174, 3074), (178, 3078)],
  [(3, 1170), (23, 4303), (32, 4313), (41, 4309), (47, 4319), (51, 4320), (62, 4325), (76, 4328), (85, 4333), (112, 5121), (118, 4307), (123, 4308)],
  [(1, 1058), (17, 2114)],
  [(3, 1188), (17, 1191), (28, 1194), (40, 2137), (64, 2251), (68, 3082), (72, 3094), (75, 3115), (79, 3116), (86, 2247), (93, 3199), (100, 3086), (104, 3241), (111, 3303), (115, 3208), (125, 3216), (133, 3219), (140, 3204), (144, 3212), (147, 3200), (150, 4199), (153, 4162), (156, 4128), (162, 3226), (166, 3222), (169, 3289), (172, 3195), (175, 3250), (178, 3265), (181, 4250), (185, 4251), (188, 4232), (191, 3293), (194, 4241), (197, 4289), (200, 4293)],
  [(3, 1074)],
  [(1, 1044), (9, 1049), (23, 1167), (30, 1185), (40, 2049), (55, 2053), (64, 2106), (70, 2110), (77, 2122), (81, 2129), (88, 3090), (92, 3098), (98, 3111), (102, 3117), (105, 3121), (108, 3122), (112, 3123), (115, 3135), (118, 3136), (140, 3140), (150, 3141), (154, 3158), (157, 3162), (160, 3166), (164, 3167), (168, 3171), (178, 3179), (181, 3187), (184, 3191), (188, 3230), (191, 3233), (195, 3237), (198, 3246), (201, 3251), (204, 3252), (207, 3253), (210, 3261), (213, 3269), (216, 3273), (219, 3281), (222, 3294), (231, 3299), (235, 4103), (238, 4111), (241, 4112), (244, 4116), (259, 4120), (262, 4124), (280, 4136), (284, 4137), (287, 4145), (290, 4153), (293, 4158), (296, 4166), (299, 4170), (302, 4174), (305, 4182), (308, 4183), (311, 4187), (314, 4195), (317, 4216), (320, 4228), (323, 4237), (326, 4246), (329, 4264), (332, 4284), (335, 4285), (338, 4298), (346, 3285)],
  [(1, 5135), (42, 5289), (46, 5239), (50, 5316), (54, 5251), (58, 5286), (62, 5283), (65, 5357), (68, 6144), (72, 6147), (75, 6150), (78, 5354), (81, 5351), (85, 6153), (89, 5280), (93, 5348), (97, 5248), (100, 6176), (104, 6173), (108, 6190), (112, 5345), (115, 6199), (118, 6196), (136, 5210), (139, 5214), (142, 5218), (145, 5222), (152, 5206), (155, 5231), (159, 5227), (162, 5235), (165, 5257), (168, 5260), (171, 5254), (174, 5263), (178, 5267), (183, 5273), (193, 5244), (199, 5296), (202, 5300), (205, 5304), (208, 5308), (212, 5320), (216, 5324), (219, 5331), (222, 5338), (225, 5342), (228, 6156), (231, 6163), (234, 6170), (237, 6179), (240, 6186), (243, 6193), (246, 6210), (250, 6206), (253, 6244), (256, 6230), (259, 6233), (262, 6237), (265, 6240), (268, 6252), (271, 6260), (274, 6271), (277, 6279), (280, 6275), (283, 6287), (286, 6291), (292, 6359), (295, 6363), (298, 6355), (301, 6371), (304, 7175), (307, 6383), (310, 7171), (313, 7183), (317, 7187), (320, 7191), (323, 7179), (326, 6379)],
  [],
  [(9, 1041), (12, 5132), (13, 2102), (17, 5190), (18, 2118), (22, 5194), (23, 2125), (27, 5202), (28, 3103), (31, 5198), (32, 3107), (35, 5292), (36, 3154), (40, 5312), (41, 3175), (44, 5327), (45, 3183), (48, 5334), (49, 3242), (53, 6159), (54, 3257), (57, 6166), (58, 3277), (61, 6182), (62, 3295), (65, 6202), (66, 3307), (69, 6214), (70, 3311), (73, 6218), (74, 4099), (77, 6222), (78, 4107), (81, 6226), (82, 4132), (85, 6248), (86, 4141), (89, 6256), (90, 4149), (93, 6263), (94, 4154), (97, 6267), (98, 4178), (101, 6283), (102, 4191), (105, 6295), (106, 4200), (109, 6299), (110, 4204), (113, 6303), (114, 4208), (117, 6307), (118, 4212), (121, 6311), (122, 4220), (125, 6315), (126, 4224), (129, 6319), (130, 4233), (133, 6323), (134, 4242), (137, 6327), (138, 4252), (141, 6331), (142, 4256), (145, 6335), (146, 4260), (149, 6339), (150, 4268), (154, 6343), (155, 4272), (159, 6347), (160, 4276), (163, 6351), (164, 4280), (167, 6367), (168, 4294), (171, 6375), (172, 5126), (175, 7195)]]
def jv_hc (ow i : Nat) : Nat := ((jv_nth jv_hcs ow).bind (fun a => jv_as a i)).getD 0
def jv_hns : List (List (Nat × Nat)) := [[],
  [(9, 2057)],
  [(9, 1053), (18, 1069)],
  [],
  [],
  [(9, 1189), (26, 1192)],
  [],
  [(7, 1047), (21, 1165), (28, 1183), (38, 2048), (53, 2051)],
  [],
  [],
  [(7, 1039), (10, 5130)]]
def jv_hn (ow i : Nat) : Nat := ((jv_nth jv_hns ow).bind (fun a => jv_as a i)).getD 0
def jv_hls : List (List (Nat × Nat)) := [[],
  [],
  [(61, 2156), (67, 2225), (69, 2238), (71, 2275), (73, 2276), (75, 2277), (77, 2278), (79, 2279), (81, 2280), (83, 2281)],
  [(21, 4302), (36, 4318), (55, 4324), (69, 4326), (71, 4327), (80, 4332), (89, 5122), (100, 5123), (102, 5124), (107, 5125), (117, 4317)],
  [],
  [],
  [],
  [],
  [(177, 5266), (181, 5271), (182, 5272), (187, 5277), (188, 5278), (189, 5279), (190, 5226), (191, 5242), (192, 5243)],
  [],
  []]
def jv_hl (ow i : Nat) : Nat := ((jv_nth jv_hls ow).bind (fun a => jv_as a i)).getD 0
/-- the classes -/
theorem jv_cls_ok : ∀ c, c < 9 → vwCl[c]? = some (jv_own c, jv_fT c, jv_fn c) := by
  intro c h
  match c, h with
  | 0, _ => rfl
  | 1, _ => rfl
  | 2, _ => rfl
  | 3, _ => rfl
  | 4, _ => rfl
  | 5, _ => rfl
  | 6, _ => rfl
  | 7, _ => rfl
  | 8, _ => rfl
  | c + 9, h => omega
/-- links to private members of nest mates: no words of the tables, carried beside them -/
def jv_nests : List Cond := [.methodLinkNest (jv_own 2) 20 (jv_ym 101).1 "SeatSwap", .methodLinkNest (jv_own 5) 17 (jv_ym 101).1 "SeatSwap", .methodLinkNest (jv_own 5) 79 (jv_ym 147).1 "SeatSwap", .methodLinkNest (jv_own 7) 23 (jv_ym 33).1 "SeatSwap", .methodLinkNest (jv_own 7) 40 (jv_ym 101).1 "SeatSwap"]
theorem jv_nests_in : ∀ w ∈ jv_nests, w ∈ lw_tbl := by
  intro w hw
  have h : jv_nests = ([125, 245, 602, 221, 319] : List Nat).filterMap (fun i => lw_tbl[i]?) := by decide +kernel
  rw [h] at hw
  obtain ⟨i, -, hi⟩ := List.mem_filterMap.mp hw
  exact List.mem_of_getElem? hi
def jv_ckf1 (ow : Nat) (q : Nat × Nat × Nat) : Bool := decide (q.2.1 < 9 ∧ q.2.2 < jv_fn q.2.1) && jv_in (jv_hf ow q.1) (.fieldLink (jv_own ow) q.1 (jv_fT q.2.1 q.2.2).1 (jv_fT q.2.1 q.2.2).2.1 (jv_fT q.2.1 q.2.2).2.2.1)
def jv_ckc1 (ow : Nat) (q : Nat × Nat × Nat × Nat) : Bool :=
  if q.2.1 = 900 then jv_in (jv_hc ow q.1) (.methodLink (jv_own ow) q.1 Lib.objectInit)
  else if q.2.1 = 901 then jv_in (jv_hc ow q.1) (.methodLink (jv_own ow) q.1 yJ0_length_8abf5)
  else if q.2.1 = 902 then jv_in (jv_hc ow q.1) (.methodLink (jv_own ow) q.1 yJ0_charAt_5068e)
  else match jv_inf q.2.1 with
  | some (_, _, na, _) => decide (na = q.2.2.1 ∧ q.2.1 < 271) && (if q.2.2.2 = 0 then jv_in (jv_hc ow q.1) (.methodLink (jv_own ow) q.1 (jv_ym q.2.1).1) else decide (Cond.methodLinkNest (jv_own ow) q.1 (jv_ym q.2.1).1 "SeatSwap" ∈ jv_nests))
  | none => false
def jv_ckn1 (ow : Nat) (q : Nat × Nat) : Bool := decide (q.2 < 9) && jv_in (jv_hn ow q.1) (.classLink (jv_own ow) q.1 (jv_own q.2))
def jv_ckl1 (ow : Nat) (q : Nat × Value) : Bool := match q.2 with
  | .int v => jv_in (jv_hl ow q.1) (.constant (jv_own ow) q.1 v)
  | .ref a => match jv_tix a with
    | some i => match jv_str[i]? with
      | some (own, idx, _) => decide (own = jv_own ow ∧ idx = q.1)
      | none => false
    | none => false
  | _ => false
theorem jv_kf0 : (jv_fld0).all (jv_ckf1 0) = true := by decide +kernel
theorem jv_kf1 : (jv_fld1).all (jv_ckf1 1) = true := by decide +kernel
theorem jv_kf2 : (jv_fld2).all (jv_ckf1 2) = true := by decide +kernel
theorem jv_kf3 : (jv_fld3).all (jv_ckf1 3) = true := by decide +kernel
theorem jv_kf4 : (jv_fld4).all (jv_ckf1 4) = true := by decide +kernel
theorem jv_kf5 : (jv_fld5).all (jv_ckf1 5) = true := by decide +kernel
theorem jv_kf6 : (jv_fld6).all (jv_ckf1 6) = true := by decide +kernel
theorem jv_kf7 : (jv_fld7).all (jv_ckf1 7) = true := by decide +kernel
theorem jv_kf8 : (jv_fld8).all (jv_ckf1 8) = true := by decide +kernel
theorem jv_kf9 : (jv_fld9).all (jv_ckf1 9) = true := by decide +kernel
theorem jv_kf10 : (jv_fld10).all (jv_ckf1 10) = true := by decide +kernel
theorem jv_ckf_ok {ow i : Nat} {v : Nat × Nat} (h : jv_fld ow i = some v) : jv_ckf1 ow (i, v) = true := by
  unfold jv_fld at h
  split at h
  · cases h
  · rename_i a ha
    have hm := jv_as_mem a h
    match ow, ha with
    | 0, ha => cases ha; exact List.all_eq_true.mp jv_kf0 _ hm
    | 1, ha => cases ha; exact List.all_eq_true.mp jv_kf1 _ hm
    | 2, ha => cases ha; exact List.all_eq_true.mp jv_kf2 _ hm
    | 3, ha => cases ha; exact List.all_eq_true.mp jv_kf3 _ hm
    | 4, ha => cases ha; exact List.all_eq_true.mp jv_kf4 _ hm
    | 5, ha => cases ha; exact List.all_eq_true.mp jv_kf5 _ hm
    | 6, ha => cases ha; exact List.all_eq_true.mp jv_kf6 _ hm
    | 7, ha => cases ha; exact List.all_eq_true.mp jv_kf7 _ hm
    | 8, ha => cases ha; exact List.all_eq_true.mp jv_kf8 _ hm
    | 9, ha => cases ha; exact List.all_eq_true.mp jv_kf9 _ hm
    | 10, ha => cases ha; exact List.all_eq_true.mp jv_kf10 _ hm
    | ow + 11, ha => rw [show jv_nth jv_flds (ow + 11) = jv_nth ([] : List (List (Nat × Nat × Nat))) ow from rfl, jv_nil] at ha; cases ha
theorem jv_kc0 : (jv_cal0).all (jv_ckc1 0) = true := by decide +kernel
theorem jv_kc1 : (jv_cal1).all (jv_ckc1 1) = true := by decide +kernel
theorem jv_kc2 : (jv_cal2).all (jv_ckc1 2) = true := by decide +kernel
theorem jv_kc3 : (jv_cal3).all (jv_ckc1 3) = true := by decide +kernel
theorem jv_kc4 : (jv_cal4).all (jv_ckc1 4) = true := by decide +kernel
theorem jv_kc5 : (jv_cal5).all (jv_ckc1 5) = true := by decide +kernel
theorem jv_kc6 : (jv_cal6).all (jv_ckc1 6) = true := by decide +kernel
theorem jv_kc7 : (jv_cal7).all (jv_ckc1 7) = true := by decide +kernel
theorem jv_kc8 : (jv_cal8).all (jv_ckc1 8) = true := by decide +kernel
theorem jv_kc9 : (jv_cal9).all (jv_ckc1 9) = true := by decide +kernel
theorem jv_kc10 : (jv_cal10).all (jv_ckc1 10) = true := by decide +kernel
theorem jv_ckc_ok {ow i : Nat} {v : Nat × Nat × Nat} (h : jv_cal ow i = some v) : jv_ckc1 ow (i, v) = true := by
  unfold jv_cal at h
  split at h
  · cases h
  · rename_i a ha
    have hm := jv_as_mem a h
    match ow, ha with
    | 0, ha => cases ha; exact List.all_eq_true.mp jv_kc0 _ hm
    | 1, ha => cases ha; exact List.all_eq_true.mp jv_kc1 _ hm
    | 2, ha => cases ha; exact List.all_eq_true.mp jv_kc2 _ hm
    | 3, ha => cases ha; exact List.all_eq_true.mp jv_kc3 _ hm
    | 4, ha => cases ha; exact List.all_eq_true.mp jv_kc4 _ hm
    | 5, ha => cases ha; exact List.all_eq_true.mp jv_kc5 _ hm
    | 6, ha => cases ha; exact List.all_eq_true.mp jv_kc6 _ hm
    | 7, ha => cases ha; exact List.all_eq_true.mp jv_kc7 _ hm
    | 8, ha => cases ha; exact List.all_eq_true.mp jv_kc8 _ hm
    | 9, ha => cases ha; exact List.all_eq_true.mp jv_kc9 _ hm
    | 10, ha => cases ha; exact List.all_eq_true.mp jv_kc10 _ hm
    | ow + 11, ha => rw [show jv_nth jv_cals (ow + 11) = jv_nth ([] : List (List (Nat × Nat × Nat × Nat))) ow from rfl, jv_nil] at ha; cases ha
theorem jv_kn0 : (jv_new0).all (jv_ckn1 0) = true := by decide +kernel
theorem jv_kn1 : (jv_new1).all (jv_ckn1 1) = true := by decide +kernel
theorem jv_kn2 : (jv_new2).all (jv_ckn1 2) = true := by decide +kernel
theorem jv_kn3 : (jv_new3).all (jv_ckn1 3) = true := by decide +kernel
theorem jv_kn4 : (jv_new4).all (jv_ckn1 4) = true := by decide +kernel
theorem jv_kn5 : (jv_new5).all (jv_ckn1 5) = true := by decide +kernel
theorem jv_kn6 : (jv_new6).all (jv_ckn1 6) = true := by decide +kernel
theorem jv_kn7 : (jv_new7).all (jv_ckn1 7) = true := by decide +kernel
theorem jv_kn8 : (jv_new8).all (jv_ckn1 8) = true := by decide +kernel
theorem jv_kn9 : (jv_new9).all (jv_ckn1 9) = true := by decide +kernel
theorem jv_kn10 : (jv_new10).all (jv_ckn1 10) = true := by decide +kernel
theorem jv_ckn_ok {ow i : Nat} {v : Nat} (h : jv_new ow i = some v) : jv_ckn1 ow (i, v) = true := by
  unfold jv_new at h
  split at h
  · cases h
  · rename_i a ha
    have hm := jv_as_mem a h
    match ow, ha with
    | 0, ha => cases ha; exact List.all_eq_true.mp jv_kn0 _ hm
    | 1, ha => cases ha; exact List.all_eq_true.mp jv_kn1 _ hm
    | 2, ha => cases ha; exact List.all_eq_true.mp jv_kn2 _ hm
    | 3, ha => cases ha; exact List.all_eq_true.mp jv_kn3 _ hm
    | 4, ha => cases ha; exact List.all_eq_true.mp jv_kn4 _ hm
    | 5, ha => cases ha; exact List.all_eq_true.mp jv_kn5 _ hm
    | 6, ha => cases ha; exact List.all_eq_true.mp jv_kn6 _ hm
    | 7, ha => cases ha; exact List.all_eq_true.mp jv_kn7 _ hm
    | 8, ha => cases ha; exact List.all_eq_true.mp jv_kn8 _ hm
    | 9, ha => cases ha; exact List.all_eq_true.mp jv_kn9 _ hm
    | 10, ha => cases ha; exact List.all_eq_true.mp jv_kn10 _ hm
    | ow + 11, ha => rw [show jv_nth jv_news (ow + 11) = jv_nth ([] : List (List (Nat × Nat))) ow from rfl, jv_nil] at ha; cases ha
theorem jv_kl0 : (jv_ldc0).all (jv_ckl1 0) = true := by decide +kernel
theorem jv_kl1 : (jv_ldc1).all (jv_ckl1 1) = true := by decide +kernel
theorem jv_kl2 : (jv_ldc2).all (jv_ckl1 2) = true := by decide +kernel
theorem jv_kl3 : (jv_ldc3).all (jv_ckl1 3) = true := by decide +kernel
theorem jv_kl4 : (jv_ldc4).all (jv_ckl1 4) = true := by decide +kernel
theorem jv_kl5 : (jv_ldc5).all (jv_ckl1 5) = true := by decide +kernel
theorem jv_kl6 : (jv_ldc6).all (jv_ckl1 6) = true := by decide +kernel
theorem jv_kl7 : (jv_ldc7).all (jv_ckl1 7) = true := by decide +kernel
theorem jv_kl8 : (jv_ldc8).all (jv_ckl1 8) = true := by decide +kernel
theorem jv_kl9 : (jv_ldc9).all (jv_ckl1 9) = true := by decide +kernel
theorem jv_kl10 : (jv_ldc10).all (jv_ckl1 10) = true := by decide +kernel
theorem jv_ckl_ok {ow i : Nat} {v : Value} (h : jv_ldc ow i = some v) : jv_ckl1 ow (i, v) = true := by
  unfold jv_ldc at h
  split at h
  · cases h
  · rename_i a ha
    have hm := jv_as_mem a h
    match ow, ha with
    | 0, ha => cases ha; exact List.all_eq_true.mp jv_kl0 _ hm
    | 1, ha => cases ha; exact List.all_eq_true.mp jv_kl1 _ hm
    | 2, ha => cases ha; exact List.all_eq_true.mp jv_kl2 _ hm
    | 3, ha => cases ha; exact List.all_eq_true.mp jv_kl3 _ hm
    | 4, ha => cases ha; exact List.all_eq_true.mp jv_kl4 _ hm
    | 5, ha => cases ha; exact List.all_eq_true.mp jv_kl5 _ hm
    | 6, ha => cases ha; exact List.all_eq_true.mp jv_kl6 _ hm
    | 7, ha => cases ha; exact List.all_eq_true.mp jv_kl7 _ hm
    | 8, ha => cases ha; exact List.all_eq_true.mp jv_kl8 _ hm
    | 9, ha => cases ha; exact List.all_eq_true.mp jv_kl9 _ hm
    | 10, ha => cases ha; exact List.all_eq_true.mp jv_kl10 _ hm
    | ow + 11, ha => rw [show jv_nth jv_ldcs (ow + 11) = jv_nth ([] : List (List (Nat × Value))) ow from rfl, jv_nil] at ha; cases ha
def jv_hl100 : List Nat := [1202, 1204, 1206]
theorem jv_lay0 : (List.range (jv_fn 0)).all (fun k => jv_in (jv_hl100.getD k 0) (u_lay (jv_own 0) (jv_fT 0) k)) = true := by decide +kernel
def jv_hl101 : List Nat := [2063, 2065, 2067]
theorem jv_lay1 : (List.range (jv_fn 1)).all (fun k => jv_in (jv_hl101.getD k 0) (u_lay (jv_own 1) (jv_fT 1) k)) = true := by decide +kernel
def jv_hl102 : List Nat := [1152, 1154, 1156, 1158, 1160, 1162]
theorem jv_lay2 : (List.range (jv_fn 2)).all (fun k => jv_in (jv_hl102.getD k 0) (u_lay (jv_own 2) (jv_fT 2) k)) = true := by decide +kernel
def jv_hl103 : List Nat := [1176, 1178, 1180]
theorem jv_lay3 : (List.range (jv_fn 3)).all (fun k => jv_in (jv_hl103.getD k 0) (u_lay (jv_own 3) (jv_fT 3) k)) = true := by decide +kernel
def jv_hl104 : List Nat := [1063, 1065]
theorem jv_lay4 : (List.range (jv_fn 4)).all (fun k => jv_in (jv_hl104.getD k 0) (u_lay (jv_own 4) (jv_fT 4) k)) = true := by decide +kernel
def jv_hl105 : List Nat := [1237, 1239, 1241, 1243, 1245, 1247, 1249, 1251, 1253, 1255, 1257, 1259, 1261]
theorem jv_lay5 : (List.range (jv_fn 5)).all (fun k => jv_in (jv_hl105.getD k 0) (u_lay (jv_own 5) (jv_fT 5) k)) = true := by decide +kernel
def jv_hl106 : List Nat := [1123, 1125, 1127, 1129, 1131, 1133, 1135, 1137, 1139, 1141]
theorem jv_lay6 : (List.range (jv_fn 6)).all (fun k => jv_in (jv_hl106.getD k 0) (u_lay (jv_own 6) (jv_fT 6) k)) = true := by decide +kernel
def jv_hl107 : List Nat := [2081, 2083, 2085, 2087, 2089, 2091, 2093, 2095, 2097, 2099]
theorem jv_lay7 : (List.range (jv_fn 7)).all (fun k => jv_in (jv_hl107.getD k 0) (u_lay (jv_own 7) (jv_fT 7) k)) = true := by decide +kernel
def jv_hl108 : List Nat := [5153, 5155, 5157, 5159, 5161, 5163, 5165, 5167, 5169, 5171, 5173, 5175, 5177, 5179, 5181, 5183, 5185, 5187]
theorem jv_lay8 : (List.range (jv_fn 8)).all (fun k => jv_in (jv_hl108.getD k 0) (u_lay (jv_own 8) (jv_fT 8) k)) = true := by decide +kernel
theorem jv_ws_in (c : Nat) (h : c < 9) : ∀ w ∈ u_ws (jv_own c) (jv_fT c) (jv_fn c), w ∈ jv_T := by
  intro w hw
  obtain ⟨k, hk, rfl⟩ := List.mem_map.mp hw
  match c, h with
  | 0, _ => exact jv_in_ok (List.all_eq_true.mp jv_lay0 k hk)
  | 1, _ => exact jv_in_ok (List.all_eq_true.mp jv_lay1 k hk)
  | 2, _ => exact jv_in_ok (List.all_eq_true.mp jv_lay2 k hk)
  | 3, _ => exact jv_in_ok (List.all_eq_true.mp jv_lay3 k hk)
  | 4, _ => exact jv_in_ok (List.all_eq_true.mp jv_lay4 k hk)
  | 5, _ => exact jv_in_ok (List.all_eq_true.mp jv_lay5 k hk)
  | 6, _ => exact jv_in_ok (List.all_eq_true.mp jv_lay6 k hk)
  | 7, _ => exact jv_in_ok (List.all_eq_true.mp jv_lay7 k hk)
  | 8, _ => exact jv_in_ok (List.all_eq_true.mp jv_lay8 k hk)
  | c + 9, h => omega
theorem jv_ty_ok (c : Nat) (h : c < 9) : ∀ k, k < jv_fn c → parseFieldDescriptor (jv_fT c k).2.2.1 = some (jv_fty c k) := by
  match c, h with
  | 0, _ => exact tyX0_ok
  | 1, _ => exact tyX1_ok
  | 2, _ => exact tyX2_ok
  | 3, _ => exact tyX3_ok
  | 4, _ => exact tyX4_ok
  | 5, _ => exact tyX5_ok
  | 6, _ => exact tyX6_ok
  | 7, _ => exact tyX7_ok
  | 8, _ => exact tyX8_ok
  | c + 9, h => omega
theorem jv_nm_ok (c : Nat) (h : c < 9) : ∀ a, a < jv_fn c → ∀ b, b < jv_fn c → a ≠ b → (jv_fT c a).2.1 ≠ (jv_fT c b).2.1 := by
  match c, h with
  | 0, _ => exact nmX0
  | 1, _ => exact nmX1
  | 2, _ => exact nmX2
  | 3, _ => exact nmX3
  | 4, _ => exact nmX4
  | 5, _ => exact nmX5
  | 6, _ => exact nmX6
  | 7, _ => exact nmX7
  | 8, _ => exact nmX8
  | c + 9, h => omega
theorem jv_dcl_ok : ∀ c, c < 9 → ∀ k, k < jv_fn c → (jv_fT c k).1 = jv_own c := by decide +kernel
theorem jv_inst_ok : ∀ c, c < 9 → jv_in (([1193, 2052, 1048, 1166, 1054, 1184, 1070, 1040, 5131] : List Nat).getD c 0) (.instantiable (jv_own c) (jv_fn c)) = true ∧ jv_in (([1031, 1032, 1026, 1029, 1027, 1030, 1028, 1025, 1033] : List Nat).getD c 0) (.initialized (jv_own c)) = true := by decide +kernel
theorem jv_arrI : jv_in 1068 (.arrayClass .int) = true := by decide +kernel
theorem jv_arrZ : jv_in 2070 (.arrayClass .boolean) = true := by decide +kernel
theorem jv_arrT6 : Cond.arrayOver (.object "SeatSwap$Traveller") ∈ lw_tbl := List.mem_of_getElem? (i := 244) (by decide +kernel)
theorem jv_arrT5 : Cond.arrayOver (.object "SeatSwap$Train") ∈ lw_tbl := List.mem_of_getElem? (i := 320) (by decide +kernel)
theorem jv_obI : jv_in 1045 (.instanceMethod Lib.objectInit) = true := by decide +kernel
theorem jv_obC : jv_in 1046 (.code Lib.objectInit ⟨#[0xb1]⟩ 1 none) = true := by decide +kernel
end
section
section
/-! THE J MACHINE: a pure reading of the bytecode that the claim's classes use. Cells are numbered by places (a reference is a place, not an address). -/
/-- a cell: an array of whole numbers (kind, length, contents), an array of references, an object (class, fields) -/
abbrev jv_E : Type := (Nat × Nat × (Nat → Int32)) ⊕ ((Nat × Nat × (Nat → Option Nat)) ⊕ (Nat × List Value))
/-- the cells, how many there are, how many slots they have -/
abbrev jv_H : Type := (Nat → jv_E) × Nat × Nat
def jv_up {α : Type} (f : Nat → α) (k : Nat) (v : α) : Nat → α := fun j => if j = k then v else f j
def jv_two (f : Int32 → Int32 → Int32) (st : List Value) : Option (List Value) := match st with
  | .int y :: .int x :: r => some (.int (f x y) :: r)
  | _ => none
/-- what works on the stack alone -/
def jv_pure (i : Instr) (st : List Value) : Option (List Value) := match i with
  | .iconst n => some (.int (Int32.ofInt n) :: st)
  | .bipush n => some (.int (Int8.ofInt n).toInt32 :: st)
  | .sipush n => some (.int (Int16.ofInt n).toInt32 :: st)
  | .iadd => jv_two (fun x y => x + y) st
  | .isub => jv_two (fun x y => x - y) st
  | .imul => jv_two (fun x y => x * y) st
  | .iand => jv_two (fun x y => x &&& y) st
  | .ior => jv_two (fun x y => x ||| y) st
  | .ixor => jv_two (fun x y => x ^^^ y) st
  | .ishl => jv_two (fun x y => x <<< (y &&& 31)) st
  | .ishr => jv_two (fun x y => x >>> (y &&& 31)) st
  | .idiv => match st with
    | .int y :: .int x :: r => if y = 0 then none else some (.int (x / y) :: r)
    | _ => none
  | .irem => match st with
    | .int y :: .int x :: r => if y = 0 then none else some (.int (x - x / y * y) :: r)
    | _ => none
  | .ineg => match st with
    | .int x :: r => some (.int (-x) :: r)
    | _ => none
  | .dup => match st with
    | .int x :: r => some (.int x :: .int x :: r)
    | .ref a :: r => some (.ref a :: .ref a :: r)
    | _ => none
  | .dup2 => match st with
    | .int x :: .ref a :: r => some (.int x :: .ref a :: .int x :: .ref a :: r)
    | _ => none
  | .pop => match st with
    | .int _ :: r => some r
    | .ref _ :: r => some r
    | .float _ :: r => some r
    | _ => none
  | .pop2 => match st with
    | .double _ :: r => some r
    | _ => none
  | .i2f => match st with
    | .int x :: r => some (.float (FP.i2f x) :: r)
    | _ => none
  | .i2d => match st with
    | .int x :: r => some (.double (FP.i2d x) :: r)
    | _ => none
  | .f2d => match st with
    | .float x :: r => if (FP.f2d x) &&& 0x7fffffffffffffff ≤ 0x7ff0000000000000 then some (.double (FP.f2d x) :: r) else none
    | _ => none
  | .fdiv => match st with
    | .float y :: .float x :: r => if (FP.fdiv x y) &&& 0x7fffffff ≤ 0x7f800000 then some (.float (FP.fdiv x y) :: r) else none
    | _ => none
  | .ddiv => match st with
    | .double y :: .double x :: r => if (FP.ddiv x y) &&& 0x7fffffffffffffff ≤ 0x7ff0000000000000 then some (.double (FP.ddiv x y) :: r) else none
    | _ => none
  | .dcmp op => match st with
    | .double y :: .double x :: r => some (.int (Op.cmpValue (FP.dcmp x y) op) :: r)
    | _ => none
  | .fconst k => if k = 0 then some (.float FP.fconst0 :: st) else none
  | .dconst k => if k = 0 then some (.double FP.dconst0 :: st) else none
  | _ => none
def jv_cc (c : ClassFile.Cond) (x y : Int32) : Bool := match c with
  | .eq => decide (x = y)
  | .ne => decide (¬ x = y)
  | .lt => decide (x < y)
  | .ge => decide (x ≥ y)
  | .gt => decide (x > y)
  | .le => decide (x ≤ y)
def jv_jmp (pc : Nat) (off : Int) (st : List Value) : Option (Nat × List Value) := if 0 ≤ (pc : Int) + off then some (((pc : Int) + off).toNat, st) else none
/-- jumps: where to, with what on the stack -/
def jv_br (i : Instr) (pc : Nat) (st : List Value) : Option (Nat × List Value) := match i with
  | .goto off => jv_jmp pc off st
  | .ifCond c off => match st with
    | .int x :: r => match jv_jmp pc off r with
      | some t => if jv_cc c x 0 = true then some t else some (pc + 3, r)
      | none => none
    | _ => none
  | .if_icmp c off => match st with
    | .int y :: .int x :: r => match jv_jmp pc off r with
      | some t => if jv_cc c x y = true then some t else some (pc + 3, r)
      | none => none
    | _ => none
  | .tableswitch d lo hi offs => match st with
    | .int x :: r => if x.toInt < lo ∨ hi < x.toInt then jv_jmp pc d r else match offs[(x.toInt - lo).toNat]? with
      | some off => jv_jmp pc off r
      | none => none
    | _ => none
  | .lookupswitch d ps => match st with
    | .int x :: r => if (ps.toList.zip (ps.toList.drop 1)).all (fun (a, next) => a.1 < next.1) = true then jv_jmp pc (Op.lookupswitch.offset ps.toList d x.toInt) r else none
    | _ => none
  | _ => none
def jv_cat2 (L : List (Option Value)) (i : Nat) : Bool := match L[i]? with
  | some (some (.double _)) => true
  | some (some (.long _)) => true
  | _ => false
/-- a store of one word -/
def jv_set1 (L : List (Option Value)) (i : Nat) (v : Value) : Option (List (Option Value)) := if i < L.length then (match i with
  | 0 => some (L.set 0 (some v))
  | j + 1 => if jv_cat2 L j = true then none else some (L.set (j + 1) (some v))) else none
def jv_set2 (L : List (Option Value)) (i : Nat) (v : Value) : Option (List (Option Value)) := if i + 1 < L.length then (match i with
  | 0 => some ((L.set 0 (some v)).set 1 none)
  | j + 1 => if jv_cat2 L j = true then none else some ((L.set (j + 1) (some v)).set (j + 2) none)) else none
def jv_ldI (L : List (Option Value)) (i : Nat) (st : List Value) : Option (List Value) := match L[i]? with
  | some (some (.int x)) => some (.int x :: st)
  | _ => none
def jv_ldA (L : List (Option Value)) (i : Nat) (st : List Value) : Option (List Value) := match L[i]? with
  | some (some (.ref x)) => some (.ref x :: st)
  | _ => none
def jv_ldD (L : List (Option Value)) (i : Nat) (st : List Value) : Option (List Value) := match L[i]? with
  | some (some (.double x)) => some (.double x :: st)
  | _ => none
/-- loads -/
def jv_ld (i : Instr) (L : List (Option Value)) (st : List Value) : Option (List Value) := match i with
  | .iload_n k => jv_ldI L k.val st
  | .iload k => jv_ldI L k st
  | .aload_n k => jv_ldA L k.val st
  | .aload k => jv_ldA L k st
  | .dload_n k => jv_ldD L k.val st
  | .dload k => jv_ldD L k st
  | _ => none
def jv_stI (L : List (Option Value)) (i : Nat) (st : List Value) : Option (List (Option Value) × List Value) := match st with
  | .int x :: r => match jv_set1 L i (.int x) with
    | some L' => some (L', r)
    | none => none
  | _ => none
def jv_stA (L : List (Option Value)) (i : Nat) (st : List Value) : Option (List (Option Value) × List Value) := match st with
  | .ref x :: r => match jv_set1 L i (.ref x) with
    | some L' => some (L', r)
    | none => none
  | _ => none
def jv_stD (L : List (Option Value)) (i : Nat) (st : List Value) : Option (List (Option Value) × List Value) := match st with
  | .double x :: r => match jv_set2 L i (.double x) with
    | some L' => some (L', r)
    | none => none
  | _ => none
/-- stores -/
def jv_sto (i : Instr) (L : List (Option Value)) (st : List Value) : Option (List (Option Value) × List Value) := match i with
  | .istore_n k => jv_stI L k.val st
  | .istore k => jv_stI L k st
  | .astore_n k => jv_stA L k.val st
  | .astore k => jv_stA L k st
  | .dstore_n k => jv_stD L k.val st
  | .dstore k => jv_stD L k st
  | .iinc k n => match L[k]? with
    | some (some (.int x)) => match jv_set1 L k (.int (x + Int32.ofInt n)) with
      | some L' => some (L', st)
      | none => none
    | _ => none
  | _ => none
def jv_arrT (k : Nat) : FieldType := match k with
  | 0 => .int
  | 1 => .boolean
  | 2 => .object "SeatSwap$Traveller"
  | _ => .object "SeatSwap$Train"
def jv_put (h : jv_H) (a : Nat) (x : jv_E) : jv_H := (jv_up h.1 a x, h.2)
def jv_add (h : jv_H) (x : jv_E) (n : Nat) : jv_H := (jv_up h.1 h.2.1 x, h.2.1 + 1, h.2.2 + n)
def jv_get (ow : Nat) (idx : Nat) (st : List Value) (h : jv_H) : Option (List Value) := match st with
  | .ref a :: r => match jv_fld ow idx with
    | some (c, k) => if a < h.2.1 then match h.1 a with
      | .inr (.inr (d, fs)) => if d = c then (match fs[k]? with
        | some v => some (v :: r)
        | none => none) else none
      | _ => none else none
    | none => none
  | _ => none
def jv_set (ow : Nat) (ini : Bool) (idx : Nat) (st : List Value) (h : jv_H) : Option (List Value × jv_H) := match st with
  | v :: .ref a :: r => match jv_fld ow idx with
    | some (c, k) => if a < h.2.1 ∧ narrow (jv_fty c k) v = v ∧ fits (jv_fty c k) v = true ∧ ((jv_fT c k).2.2.2 = false ∨ (ini = true ∧ c = ow)) then match h.1 a with
      | .inr (.inr (d, fs)) => if d = c ∧ k < fs.length then some (r, jv_put h a (.inr (.inr (d, fs.set k v)))) else none
      | _ => none else none
    | none => none
  | _ => none
/-- what reads and writes cells -/
def jv_heap (ow : Nat) (ini : Bool) (i : Instr) (st : List Value) (h : jv_H) : Option (List Value × jv_H) := match i with
  | .getfield idx => match jv_get ow idx st h with
    | some st' => some (st', h)
    | none => none
  | .putfield idx => jv_set ow ini idx st h
  | .iaload => match st with
    | .int i :: .ref a :: r => if a < h.2.1 ∨ (a = 1000000 ∧ ow = 10) then match h.1 a with
      | .inl (ty, n, f) => if (ty = 0 ∧ a < h.2.1 ∨ ty = 9 ∧ a = 1000000) ∧ ¬ (i < 0 ∨ n ≤ i.toNatClampNeg) then some (.int (f i.toNatClampNeg) :: r, h) else none
      | _ => none else none
    | _ => none
  | .baload => match st with
    | .int i :: .ref a :: r => if a < h.2.1 then match h.1 a with
      | .inl (ty, n, f) => if ty = 1 ∧ ¬ (i < 0 ∨ n ≤ i.toNatClampNeg) then some (.int (f i.toNatClampNeg) :: r, h) else none
      | _ => none else none
    | _ => none
  | .aaload => match st with
    | .int i :: .ref a :: r => if a < h.2.1 then match h.1 a with
      | .inr (.inl (ty, n, f)) => if (ty = 2 ∨ ty = 3) ∧ ¬ (i < 0 ∨ n ≤ i.toNatClampNeg) then (match f i.toNatClampNeg with
        | some b => some (.ref b :: r, h)
        | none => none) else none
      | _ => none else none
    | _ => none
  | .iastore => match st with
    | .int x :: .int i :: .ref a :: r => if a < h.2.1 then match h.1 a with
      | .inl (ty, n, f) => if ty = 0 ∧ ¬ (i < 0 ∨ n ≤ i.toNatClampNeg) then some (r, jv_put h a (.inl (ty, n, upd f i.toNatClampNeg x))) else none
      | _ => none else none
    | _ => none
  | .bastore => match st with
    | .int x :: .int i :: .ref a :: r => if a < h.2.1 ∧ vp_nar .boolean x = x then match h.1 a with
      | .inl (ty, n, f) => if ty = 1 ∧ ¬ (i < 0 ∨ n ≤ i.toNatClampNeg) then some (r, jv_put h a (.inl (ty, n, upd f i.toNatClampNeg x))) else none
      | _ => none else none
    | _ => none
  | .aastore => match st with
    | .ref b :: .int i :: .ref a :: r => if a < h.2.1 ∧ b < h.2.1 then match h.1 a, h.1 b with
      | .inr (.inl (ty, n, f)), .inr (.inr (d, _)) => if ((ty = 2 ∧ d = 6) ∨ (ty = 3 ∧ d = 5)) ∧ ¬ (i < 0 ∨ n ≤ i.toNatClampNeg) then some (r, jv_put h a (.inr (.inl (ty, n, va_up f i.toNatClampNeg (some b))))) else none
      | _, _ => none else none
    | _ => none
  | .arraylength => match st with
    | .ref a :: r => if a < h.2.1 ∨ (a = 1000000 ∧ ow = 10) then match h.1 a with
      | .inl (ty, n, _) => if ty < 2 ∧ a < h.2.1 ∨ ty = 9 ∧ a = 1000000 then some (.int (Int32.ofNat n) :: r, h) else none
      | .inr (.inl (ty, n, _)) => if (ty = 2 ∨ ty = 3) ∧ a < h.2.1 then some (.int (Int32.ofNat n) :: r, h) else none
      | _ => none else none
    | _ => none
  | .new idx => match jv_new ow idx with
    | some c => some (.ref h.2.1 :: st, jv_add h (.inr (.inr (c, (List.range (jv_fn c)).map (fun k => defaultValue (jv_fty c k))))) (jv_fn c))
    | none => none
  | .newarray t => match st with
    | .int n :: r => if ¬ n < 0 ∧ n.toNatClampNeg ≤ 100000 then (match t with
      | .int => some (.ref h.2.1 :: r, jv_add h (.inl (0, n.toNatClampNeg, fun _ => 0)) n.toNatClampNeg)
      | .boolean => some (.ref h.2.1 :: r, jv_add h (.inl (1, n.toNatClampNeg, fun _ => 0)) n.toNatClampNeg)
      | _ => none) else none
    | _ => none
  | .anewarray idx => match st with
    | .int n :: r => if ¬ n < 0 ∧ n.toNatClampNeg ≤ 100000 then (match jv_new ow idx with
      | some c => if c = 6 then some (.ref h.2.1 :: r, jv_add h (.inr (.inl (2, n.toNatClampNeg, fun _ => none))) n.toNatClampNeg)
        else if c = 5 then some (.ref h.2.1 :: r, jv_add h (.inr (.inl (3, n.toNatClampNeg, fun _ => none))) n.toNatClampNeg) else none
      | none => none) else none
    | _ => none
  | .ldc idx => match jv_ldc ow idx with
    | some v => some (v :: st, h)
    | none => none
  | _ => none
/-- one instruction that neither calls nor returns -/
def jv_step (ow : Nat) (ini : Bool) (i : Instr) (len pc : Nat) (L : List (Option Value)) (st : List Value) (h : jv_H) : Option (Nat × List (Option Value) × List Value × jv_H) := match jv_pure i st with
  | some st' => some (pc + len, L, st', h)
  | none => match jv_ld i L st with
    | some st' => some (pc + len, L, st', h)
    | none => match jv_br i pc st with
      | some (pc', st') => some (pc', L, st', h)
      | none => match jv_sto i L st with
        | some (L', st') => some (pc + len, L', st', h)
        | none => match jv_heap ow ini i st h with
          | some (st', h') => some (pc + len, L, st', h')
          | none => none
/-- returns: the answer -/
def jv_ret (ret : Option FieldType) (i : Instr) (st : List Value) : Option (Option Value) := match i, ret, st with
  | .return_, none, [] => some none
  | .ireturn, some ty, [.int v] => if narrow ty (.int v) = .int v then some (some (.int v)) else none
  | .areturn, some (.object _), [.ref a] => some (some (.ref a))
  | .freturn, some .float, [.float v] => some (some (.float v))
  | .dreturn, some .double, [.double v] => some (some (.double v))
  | _, _, _ => none
def jv_isC (i : Instr) : Option (Nat × Nat) := match i with
  | .invokestatic k => some (0, k)
  | .invokevirtual k => some (1, k)
  | .invokespecial k => some (2, k)
  | _ => none
def jv_wd (st : List Value) : Nat := (st.map fun v => v.category).sum
/-- the two members of String over the claim's texts -/
def jv_strlen (st : List Value) : Option (List Value) := match st with
  | .ref a :: r => match jv_tix a with
    | some i => some (.int (Int32.ofNat (jv_byt.getD i []).length) :: r)
    | none => none
  | _ => none
def jv_strat (st : List Value) : Option (List Value) := match st with
  | .int j :: .ref a :: r => match jv_tix a with
    | some i => if ¬ (j < 0 ∨ (jv_byt.getD i []).length ≤ j.toNatClampNeg) then some (.int ((jv_byt.getD i []).getD j.toNatClampNeg 0) :: r) else none
    | none => none
  | _ => none
/-- may a method with this room call that one: kinds, words, and the receiver's class -/
def jv_may (kd : Nat) (fr lo : Nat) (q : Nat × Nat × Nat × Nat × Nat × Nat) (na : Nat) (st : List Value) (h : jv_H) : Bool :=
  decide (q.2.1 = kd ∧ q.2.2.1 = na ∧ na ≤ st.length ∧ na ≤ q.2.2.2.1 ∧ q.2.2.2.2.1 + 1 ≤ fr ∧ 19 + q.2.2.2.1 + q.2.2.2.2.2 ≤ lo ∧ jv_wd (st.drop na) ≤ 8 ∧ jv_wd (st.take na) = na) &&
  (match kd with
   | 0 => true
   | _ => match (st.take na).getLast? with
     | some (.ref a) => decide (a < h.2.1) && (match h.1 a with
       | .inr (.inr (d, _)) => decide (d = q.1)
       | _ => false)
     | _ => false)
def jv_run : Nat → Nat → Nat → List (Option Value) → List Value → jv_H → Option (Option Value × jv_H)
  | 0, _, _, _, _, _ => none
  | n + 1, y, pc, L, st, h => match jv_inf y with
    | none => none
    | some (ow, kd, _, _, fr, lo) => match jv_code y pc with
      | none => none
      | some (i, len) => match jv_ret (jv_ym y).2.2 i st with
        | some r => some (r, h)
        | none => match jv_isC i with
          | none => match jv_step ow (decide (kd = 2)) i len pc L st h with
            | some (pc', L', st', h') => jv_run n y pc' L' st' h'
            | none => none
          | some (ck, idx) => match jv_cal ow idx with
            | none => none
            | some (z, na, _) => if z = 900 then (match st with
                | .ref _ :: r => if ck = 2 ∧ 1 ≤ fr ∧ jv_wd r + 12 ≤ lo then jv_run n y (pc + 3) L r h else none
                | _ => none)
              else if z = 901 then (match jv_strlen st with
                | some st' => if ck = 1 ∧ 2 ≤ fr ∧ 40 ≤ lo ∧ jv_wd (st.drop 1) ≤ 8 then jv_run n y (pc + 3) L st' h else none
                | none => none)
              else if z = 902 then (match jv_strat st with
                | some st' => if ck = 1 ∧ 6 ≤ fr ∧ 120 ≤ lo ∧ jv_wd (st.drop 2) ≤ 8 then jv_run n y (pc + 3) L st' h else none
                | none => none)
              else match jv_inf z with
                | none => none
                | some q => if jv_may ck fr lo q na st h = true then (match jv_run n z 0 ((st.take na).reverse.map some ++ List.replicate (q.2.2.2.1 - na) none) [] h with
                  | some (r, h1) => jv_run n y (pc + 3) L (r.toList ++ st.drop na) h1
                  | none => none) else none
end
section
/-! THE J MACHINE IS RIGHT, one instruction at a time: what works on stack and locals -/
section JSND
variable {p : Program} {l : Launch} {e : Env} {R : Room} {s : State} {m : MethodId} {args : Array Value} {below : List Frame} {meth : Method} {c : Code} {H : Heap} {locs : List Loc} {cells slots : Nat} {Q : State → Prop}
variable {cc : ByteArray} {pc : Nat} {ls : Array Slot} {ad : Nat → Nat}
/-- a value, its place turned into an address -/
def jv_vl (ad : Nat → Nat) (v : Value) : Value := match v with
  | .ref a => .ref (ad a)
  | w => w
theorem jv_vl_cat (ad : Nat → Nat) (v : Value) : (jv_vl ad v).category = v.category := by cases v <;> rfl
theorem jv_len1 {i : Instr} {len : Nat} (hl : jv_sw i = true ∨ len = jv_len i) (h : jv_sw i = false) : len = jv_len i := by
  rcases hl with hl | hl
  · rw [h] at hl; cases hl
  · exact hl
theorem jv_two_eq {f : Int32 → Int32 → Int32} {st st' : List Value} (h : jv_two f st = some st') : ∃ (y x : Int32) (r : List Value), st = .int y :: .int x :: r ∧ st' = .int (f x y) :: r := by
  unfold jv_two at h
  split at h
  · cases h; exact ⟨_, _, _, rfl, rfl⟩
  · cases h
set_option maxHeartbeats 4000000 in
theorem jv_pure_ok (hx : p.tables.exec = Jvm.exec) (hb : c.code = cc) {i : Instr} {len : Nat} {st st' : List Value} (hdg : decode cc pc = .ok (i, len)) (hl : jv_sw i = true ∨ len = jv_len i) (h : jv_pure i st = some st')
    (k : W p l e R s m args below meth c H locs cells slots Q (F0 m (pc + len) ls (st'.map (jv_vl ad)))) : W p l e R s m args below meth c H locs cells slots Q (F0 m pc ls (st.map (jv_vl ad))) := by
  unfold jv_pure at h
  split at h
  · have e := jv_len1 hl rfl; subst e; cases h; exact lv_iconst hx hb hdg rfl k
  · have e := jv_len1 hl rfl; subst e; cases h; exact lv_bipush hx hb hdg rfl k
  · have e := jv_len1 hl rfl; subst e; cases h; exact lv_sipush hx hb hdg rfl k
  · have e := jv_len1 hl rfl; subst e; obtain ⟨y, x, r, rfl, rfl⟩ := jv_two_eq h; exact lv_iadd hx hb hdg k
  · have e := jv_len1 hl rfl; subst e; obtain ⟨y, x, r, rfl, rfl⟩ := jv_two_eq h; exact lv_isub hx hb hdg k
  · have e := jv_len1 hl rfl; subst e; obtain ⟨y, x, r, rfl, rfl⟩ := jv_two_eq h; exact lv_imul hx hb hdg k
  · have e := jv_len1 hl rfl; subst e; obtain ⟨y, x, r, rfl, rfl⟩ := jv_two_eq h; exact lv_iand hx hb hdg k
  · have e := jv_len1 hl rfl; subst e; obtain ⟨y, x, r, rfl, rfl⟩ := jv_two_eq h; exact lv_ior hx hb hdg k
  · have e := jv_len1 hl rfl; subst e; obtain ⟨y, x, r, rfl, rfl⟩ := jv_two_eq h; exact lv_ixor hx hb hdg k
  · have e := jv_len1 hl rfl; subst e; obtain ⟨y, x, r, rfl, rfl⟩ := jv_two_eq h; exact lv_ishl hx hb hdg k
  · have e := jv_len1 hl rfl; subst e; obtain ⟨y, x, r, rfl, rfl⟩ := jv_two_eq h; exact lv_ishr hx hb hdg k
  · have e := jv_len1 hl rfl; subst e
    split at h
    · split at h
      · cases h
      · rename_i hne; cases h; exact lv_idiv hx hb hdg hne k
    · cases h
  · have e := jv_len1 hl rfl; subst e
    split at h
    · split at h
      · cases h
      · rename_i hne; cases h; exact lv_irem hx hb hdg hne k
    · cases h
  · have e := jv_len1 hl rfl; subst e
    split at h
    · cases h; exact lv_ineg hx hb hdg k
    · cases h
  · have e := jv_len1 hl rfl; subst e
    split at h
    · rename_i x r; cases h; exact lv_dup (va := .int x) hx hb hdg rfl k
    · rename_i a r; cases h; exact lv_dup (va := .ref (ad a)) hx hb hdg rfl k
    · cases h
  · have e := jv_len1 hl rfl; subst e
    split at h
    · rename_i x a r; cases h; exact lv_dup2_11 (va := .int x) (vb := .ref (ad a)) hx hb hdg rfl rfl k
    · cases h
  · have e := jv_len1 hl rfl; subst e
    split at h
    · rename_i x r; cases h; exact lv_pop (va := .int x) hx hb hdg rfl k
    · rename_i a r; cases h; exact lv_pop (va := .ref (ad a)) hx hb hdg rfl k
    · rename_i x r; cases h; exact lv_pop (va := .float x) hx hb hdg rfl k
    · cases h
  · have e := jv_len1 hl rfl; subst e
    split at h
    · rename_i x r; cases h; exact lv_pop2_2 (va := .double x) hx hb hdg rfl k
    · cases h
  · have e := jv_len1 hl rfl; subst e
    split at h
    · cases h; exact lv_i2f hx hb hdg k
    · cases h
  · have e := jv_len1 hl rfl; subst e
    split at h
    · cases h; exact lv_i2d hx hb hdg k
    · cases h
  · have e := jv_len1 hl rfl; subst e
    split at h
    · split at h
      · rename_i hne; cases h; exact lv_f2d hx hb hdg hne k
      · cases h
    · cases h
  · have e := jv_len1 hl rfl; subst e
    split at h
    · split at h
      · rename_i hne; cases h; exact lv_fdiv hx hb hdg hne k
      · cases h
    · cases h
  · have e := jv_len1 hl rfl; subst e
    split at h
    · split at h
      · rename_i hne; cases h; exact lv_ddiv hx hb hdg hne k
      · cases h
    · cases h
  · have e := jv_len1 hl rfl; subst e
    split at h
    · cases h; exact lv_dcmp hx hb hdg k
    · cases h
  · have e := jv_len1 hl rfl; subst e
    split at h
    · rename_i hk; subst hk; cases h; exact lv_fconst0 hx hb hdg k
    · cases h
  · have e := jv_len1 hl rfl; subst e
    split at h
    · rename_i hk; subst hk; cases h; exact lv_dconst0 hx hb hdg k
    · cases h
  · cases h
/-- the locals hold what the J machine's hold -/
def jv_Lc (ad : Nat → Nat) (ls : Array Slot) (nL : Nat) (L : List (Option Value)) : Prop := ls.size = nL ∧ L.length = nL ∧ lv_wf ls ∧ ∀ (i : Nat) (v : Value), L[i]? = some (some v) → ls[i]? = some (.val (jv_vl ad v))
theorem jv_ldI_eq {L : List (Option Value)} {i : Nat} {st st' : List Value} (h : jv_ldI L i st = some st') : ∃ x, L[i]? = some (some (.int x)) ∧ st' = .int x :: st := by
  unfold jv_ldI at h
  split at h
  · rename_i x hL; cases h; exact ⟨x, hL, rfl⟩
  · cases h
theorem jv_ldA_eq {L : List (Option Value)} {i : Nat} {st st' : List Value} (h : jv_ldA L i st = some st') : ∃ x, L[i]? = some (some (.ref x)) ∧ st' = .ref x :: st := by
  unfold jv_ldA at h
  split at h
  · rename_i x hL; cases h; exact ⟨x, hL, rfl⟩
  · cases h
theorem jv_ldD_eq {L : List (Option Value)} {i : Nat} {st st' : List Value} (h : jv_ldD L i st = some st') : ∃ x, L[i]? = some (some (.double x)) ∧ st' = .double x :: st := by
  unfold jv_ldD at h
  split at h
  · rename_i x hL; cases h; exact ⟨x, hL, rfl⟩
  · cases h
theorem jv_ld_ok (hx : p.tables.exec = Jvm.exec) (hb : c.code = cc) {i : Instr} {len nL : Nat} {L : List (Option Value)} {st st' : List Value} (hdg : decode cc pc = .ok (i, len)) (hl : jv_sw i = true ∨ len = jv_len i) (hL : jv_Lc ad ls nL L) (h : jv_ld i L st = some st')
    (k : W p l e R s m args below meth c H locs cells slots Q (F0 m (pc + len) ls (st'.map (jv_vl ad)))) : W p l e R s m args below meth c H locs cells slots Q (F0 m pc ls (st.map (jv_vl ad))) := by
  unfold jv_ld at h
  split at h
  · have e := jv_len1 hl rfl; subst e; obtain ⟨x, h1, rfl⟩ := jv_ldI_eq h; exact lv_iload_n (x := x) hx hb hdg rfl (hL.2.2.2 _ _ h1) k
  · have e := jv_len1 hl rfl; subst e; obtain ⟨x, h1, rfl⟩ := jv_ldI_eq h; exact lv_iload (x := x) hx hb hdg (hL.2.2.2 _ _ h1) k
  · have e := jv_len1 hl rfl; subst e; obtain ⟨x, h1, rfl⟩ := jv_ldA_eq h; exact lv_aload_n (x := ad x) hx hb hdg rfl (hL.2.2.2 _ _ h1) k
  · have e := jv_len1 hl rfl; subst e; obtain ⟨x, h1, rfl⟩ := jv_ldA_eq h; exact lv_aload (x := ad x) hx hb hdg (hL.2.2.2 _ _ h1) k
  · have e := jv_len1 hl rfl; subst e; obtain ⟨x, h1, rfl⟩ := jv_ldD_eq h; exact lv_dload_n (x := x) hx hb hdg rfl (hL.2.2.2 _ _ h1) k
  · have e := jv_len1 hl rfl; subst e; obtain ⟨x, h1, rfl⟩ := jv_ldD_eq h; exact lv_dload (x := x) hx hb hdg (hL.2.2.2 _ _ h1) k
  · cases h
theorem jv_jmp_eq {pc pc' : Nat} {off : Int} {st st' : List Value} (h : jv_jmp pc off st = some (pc', st')) : (pc : Int) + off = (pc' : Int) ∧ st' = st := by
  unfold jv_jmp at h
  split at h
  · cases h; exact ⟨by omega, rfl⟩
  · cases h
theorem jv_if_eq {b : Bool} {t : Nat × List Value} {u : Nat × List Value} {w : Nat × List Value} (h : (if b = true then some t else some u) = some w) : (b = true ∧ w = t) ∨ (b = false ∧ w = u) := by
  cases b
  · right; exact ⟨rfl, (Option.some.inj h).symm⟩
  · left; exact ⟨rfl, (Option.some.inj h).symm⟩
set_option maxHeartbeats 4000000 in
theorem jv_br_ok (hx : p.tables.exec = Jvm.exec) (hb : c.code = cc) {i : Instr} {len pc' : Nat} {st st' : List Value} (hdg : decode cc pc = .ok (i, len)) (hl : jv_sw i = true ∨ len = jv_len i) (h : jv_br i pc st = some (pc', st'))
    (k : W p l e R s m args below meth c H locs cells slots Q (F0 m pc' ls (st'.map (jv_vl ad)))) : W p l e R s m args below meth c H locs cells slots Q (F0 m pc ls (st.map (jv_vl ad))) := by
  unfold jv_br at h
  split at h
  · have e := jv_len1 hl rfl; subst e
    obtain ⟨ht, rfl⟩ := jv_jmp_eq h
    exact lv_goto hx hb hdg ht k
  · rename_i cnd off
    have e := jv_len1 hl rfl; subst e
    split at h
    · rename_i x r
      split at h
      · rename_i t hj
        obtain ⟨tp, ts⟩ := t
        obtain ⟨ht, rfl⟩ := jv_jmp_eq hj
        rcases jv_if_eq h with ⟨hc, hw⟩ | ⟨hc, hw⟩ <;> cases hw <;> cases cnd <;> simp only [jv_cc, decide_eq_true_eq, decide_eq_false_iff_not] at hc
        · exact lv_if_eq hx hb hdg ht (fun _ => k) (fun q => absurd hc q)
        · exact lv_if_ne hx hb hdg ht (fun _ => k) (fun q => absurd q hc)
        · exact lv_if_lt hx hb hdg ht (fun _ => k) (fun q => absurd hc q)
        · exact lv_if_ge hx hb hdg ht (fun _ => k) (fun q => absurd hc q)
        · exact lv_if_gt hx hb hdg ht (fun _ => k) (fun q => absurd hc q)
        · exact lv_if_le hx hb hdg ht (fun _ => k) (fun q => absurd hc q)
        · exact lv_if_eq hx hb hdg ht (fun q => absurd q hc) (fun _ => k)
        · exact lv_if_ne hx hb hdg ht (fun q => absurd q hc) (fun _ => k)
        · exact lv_if_lt hx hb hdg ht (fun q => absurd q hc) (fun _ => k)
        · exact lv_if_ge hx hb hdg ht (fun q => absurd q hc) (fun _ => k)
        · exact lv_if_gt hx hb hdg ht (fun q => absurd q hc) (fun _ => k)
        · exact lv_if_le hx hb hdg ht (fun q => absurd q hc) (fun _ => k)
      · cases h
    · cases h
  · rename_i cnd off
    have e := jv_len1 hl rfl; subst e
    split at h
    · rename_i y x r
      split at h
      · rename_i t hj
        obtain ⟨tp, ts⟩ := t
        obtain ⟨ht, rfl⟩ := jv_jmp_eq hj
        rcases jv_if_eq h with ⟨hc, hw⟩ | ⟨hc, hw⟩ <;> cases hw <;> cases cnd <;> simp only [jv_cc, decide_eq_true_eq, decide_eq_false_iff_not] at hc
        · exact lv_icmp_eq hx hb hdg ht (fun _ => k) (fun q => absurd hc q)
        · exact lv_icmp_ne hx hb hdg ht (fun _ => k) (fun q => absurd q hc)
        · exact lv_icmp_lt hx hb hdg ht (fun _ => k) (fun q => absurd hc q)
        · exact lv_icmp_ge hx hb hdg ht (fun _ => k) (fun q => absurd hc q)
        · exact lv_icmp_gt hx hb hdg ht (fun _ => k) (fun q => absurd hc q)
        · exact lv_icmp_le hx hb hdg ht (fun _ => k) (fun q => absurd hc q)
        · exact lv_icmp_eq hx hb hdg ht (fun q => absurd q hc) (fun _ => k)
        · exact lv_icmp_ne hx hb hdg ht (fun q => absurd q hc) (fun _ => k)
        · exact lv_icmp_lt hx hb hdg ht (fun q => absurd q hc) (fun _ => k)
        · exact lv_icmp_ge hx hb hdg ht (fun q => absurd q hc) (fun _ => k)
        · exact lv_icmp_gt hx hb hdg ht (fun q => absurd q hc) (fun _ => k)
        · exact lv_icmp_le hx hb hdg ht (fun q => absurd q hc) (fun _ => k)
      · cases h
    · cases h
  · split at h
    · split at h
      · rename_i hout
        obtain ⟨ht, rfl⟩ := jv_jmp_eq h
        exact lv_tableOut hx hb hdg hout ht k
      · rename_i hin
        split at h
        · rename_i off ho
          obtain ⟨ht, rfl⟩ := jv_jmp_eq h
          exact lv_tableIn hx hb hdg (fun q => hin (Or.inl q)) (fun q => hin (Or.inr q)) ho ht k
        · cases h
    · cases h
  · split at h
    · split at h
      · rename_i hp
        obtain ⟨ht, rfl⟩ := jv_jmp_eq h
        exact lv_lookup hx hb hdg hp rfl ht k
      · cases h
    · cases h
  · cases h
/-- the locals as pairs -/
def jv_prs (ad : Nat → Nat) (L : List (Option Value)) : List (Nat × Value) := (List.range L.length).filterMap (fun i => match L[i]? with
  | some (some v) => some (i, jv_vl ad v)
  | _ => none)
theorem jv_prs_mem {L : List (Option Value)} {i : Nat} {w : Value} : (i, w) ∈ jv_prs ad L ↔ ∃ v, L[i]? = some (some v) ∧ w = jv_vl ad v := by
  unfold jv_prs
  rw [List.mem_filterMap]
  constructor
  · rintro ⟨j, -, hj⟩
    split at hj
    · rename_i v hv
      cases hj
      exact ⟨v, hv, rfl⟩
    · cases hj
  · rintro ⟨v, hv, rfl⟩
    refine ⟨i, List.mem_range.mpr (List.getElem?_eq_some_iff.mp hv).1, ?_⟩
    rw [hv]
theorem jv_Lc.has {nL : Nat} {L : List (Option Value)} (h : jv_Lc ad ls nL L) : lv_has ls nL (jv_prs ad L) := by
  refine ⟨h.1, h.2.2.1, fun q hq => ?_⟩
  obtain ⟨i, w⟩ := q
  obtain ⟨v, hv, rfl⟩ := jv_prs_mem.mp hq
  exact h.2.2.2 i v hv
theorem jv_cat2_no {L : List (Option Value)} {j : Nat} {w : Value} (h : ¬ jv_cat2 L j = true) (hw : L[j]? = some (some w)) : ¬ w.category = 2 := by
  unfold jv_cat2 at h
  rw [hw] at h
  cases w <;> first | (intro q; cases q; done) | exact absurd rfl h
theorem jv_Lc.of1 {nL i : Nat} {v : Value} {L L' : List (Option Value)} {ls' : Array Slot} (hlen : L.length = nL) (hs : jv_set1 L i v = some L') (h : lv_has ls' nL ((i, jv_vl ad v) :: (jv_prs ad L).filter (fun q => !(q.1 == i) && !(q.1 + 1 == i && q.2.category == 2)))) : jv_Lc ad ls' nL L' := by
  have key : L' = L.set i (some v) ∧ i < L.length ∧ ∀ j, i = j + 1 → ¬ jv_cat2 L j = true := by
    unfold jv_set1 at hs
    split at hs
    · rename_i hi
      split at hs
      · cases hs; exact ⟨rfl, hi, fun j h => by omega⟩
      · split at hs
        · cases hs
        · rename_i hc
          cases hs; exact ⟨rfl, hi, fun j h => by rw [show j = _ from (Nat.succ.inj h).symm]; exact hc⟩
    · cases hs
  obtain ⟨rfl, hi, hcat⟩ := key
  refine ⟨h.1, by rw [List.length_set]; exact hlen, h.2.1, fun j w hj => ?_⟩
  by_cases hji : i = j
  · subst hji
    rw [List.getElem?_set_self hi] at hj
    cases hj
    exact h.2.2 (i, jv_vl ad v) List.mem_cons_self
  · rw [List.getElem?_set_ne hji] at hj
    refine h.2.2 (j, jv_vl ad w) (List.mem_cons_of_mem _ (List.mem_filter.mpr ⟨jv_prs_mem.mpr ⟨w, hj, rfl⟩, ?_⟩))
    have h1 : (j == i) = false := by simpa using fun q => hji q.symm
    have h2 : (j + 1 == i && (jv_vl ad w).category == 2) = false := by
      by_cases hq : j + 1 = i
      · have h3 := jv_cat2_no (hcat j hq.symm) hj
        rw [jv_vl_cat]
        simp [h3]
      · simp [hq]
    simp only [h1, h2]
    rfl
theorem jv_Lc.of2 {nL i : Nat} {v : Value} {L L' : List (Option Value)} {ls' : Array Slot} (hlen : L.length = nL) (hs : jv_set2 L i v = some L') (h : lv_has ls' nL ((i, jv_vl ad v) :: (jv_prs ad L).filter (fun q => !(q.1 == i) && (!(q.1 == i + 1) && !(q.1 + 1 == i && q.2.category == 2))))) : jv_Lc ad ls' nL L' := by
  have key : L' = (L.set i (some v)).set (i + 1) none ∧ i + 1 < L.length ∧ ∀ j, i = j + 1 → ¬ jv_cat2 L j = true := by
    unfold jv_set2 at hs
    split at hs
    · rename_i hi
      split at hs
      · cases hs; exact ⟨rfl, hi, fun j h => by omega⟩
      · split at hs
        · cases hs
        · rename_i hc
          cases hs; exact ⟨rfl, hi, fun j h => by rw [show j = _ from (Nat.succ.inj h).symm]; exact hc⟩
    · cases hs
  obtain ⟨rfl, hi, hcat⟩ := key
  refine ⟨h.1, by rw [List.length_set, List.length_set]; exact hlen, h.2.1, fun j w hj => ?_⟩
  by_cases hj1 : i + 1 = j
  · subst hj1
    rw [List.getElem?_set_self (by rw [List.length_set]; exact hi)] at hj
    cases hj
  rw [List.getElem?_set_ne hj1] at hj
  by_cases hji : i = j
  · subst hji
    rw [List.getElem?_set_self (by omega)] at hj
    cases hj
    exact h.2.2 (i, jv_vl ad v) List.mem_cons_self
  · rw [List.getElem?_set_ne hji] at hj
    refine h.2.2 (j, jv_vl ad w) (List.mem_cons_of_mem _ (List.mem_filter.mpr ⟨jv_prs_mem.mpr ⟨w, hj, rfl⟩, ?_⟩))
    have h1 : (j == i) = false := by simpa using fun q => hji q.symm
    have h4 : (j == i + 1) = false := by simpa using fun q => hj1 q.symm
    have h2 : (j + 1 == i && (jv_vl ad w).category == 2) = false := by
      by_cases hq : j + 1 = i
      · have h3 := jv_cat2_no (hcat j hq.symm) hj
        rw [jv_vl_cat]
        simp [h3]
      · simp [hq]
    simp only [h1, h2, h4]
    rfl
theorem jv_set1_lt {L L' : List (Option Value)} {i : Nat} {v : Value} (hs : jv_set1 L i v = some L') : i < L.length := by
  unfold jv_set1 at hs
  split at hs
  · assumption
  · cases hs
theorem jv_set2_lt {L L' : List (Option Value)} {i : Nat} {v : Value} (hs : jv_set2 L i v = some L') : i + 1 < L.length := by
  unfold jv_set2 at hs
  split at hs
  · assumption
  · cases hs
theorem jv_stI_eq {L L' : List (Option Value)} {i : Nat} {st st' : List Value} (h : jv_stI L i st = some (L', st')) : ∃ x, st = .int x :: st' ∧ jv_set1 L i (.int x) = some L' := by
  unfold jv_stI at h
  split at h
  · split at h
    · rename_i hs; cases h; exact ⟨_, rfl, hs⟩
    · cases h
  · cases h
theorem jv_stA_eq {L L' : List (Option Value)} {i : Nat} {st st' : List Value} (h : jv_stA L i st = some (L', st')) : ∃ x, st = .ref x :: st' ∧ jv_set1 L i (.ref x) = some L' := by
  unfold jv_stA at h
  split at h
  · split at h
    · rename_i hs; cases h; exact ⟨_, rfl, hs⟩
    · cases h
  · cases h
theorem jv_stD_eq {L L' : List (Option Value)} {i : Nat} {st st' : List Value} (h : jv_stD L i st = some (L', st')) : ∃ x, st = .double x :: st' ∧ jv_set2 L i (.double x) = some L' := by
  unfold jv_stD at h
  split at h
  · split at h
    · rename_i hs; cases h; exact ⟨_, rfl, hs⟩
    · cases h
  · cases h
theorem jv_sto_ok (hx : p.tables.exec = Jvm.exec) (hb : c.code = cc) {i : Instr} {len nL : Nat} {L L' : List (Option Value)} {st st' : List Value} (hdg : decode cc pc = .ok (i, len)) (hl : jv_sw i = true ∨ len = jv_len i) (hL : jv_Lc ad ls nL L) (h : jv_sto i L st = some (L', st'))
    (k : ∀ ls', jv_Lc ad ls' nL L' → W p l e R s m args below meth c H locs cells slots Q (F0 m (pc + len) ls' (st'.map (jv_vl ad)))) : W p l e R s m args below meth c H locs cells slots Q (F0 m pc ls (st.map (jv_vl ad))) := by
  have hn := hL.2.1
  unfold jv_sto at h
  split at h
  · have e := jv_len1 hl rfl; subst e; obtain ⟨x, rfl, h1⟩ := jv_stI_eq h
    exact lv_istore_n hx hb hdg rfl hL.has (hn ▸ jv_set1_lt h1) rfl (fun ls' h2 => k ls' (jv_Lc.of1 hn h1 h2))
  · have e := jv_len1 hl rfl; subst e; obtain ⟨x, rfl, h1⟩ := jv_stI_eq h
    exact lv_istore hx hb hdg hL.has (hn ▸ jv_set1_lt h1) rfl (fun ls' h2 => k ls' (jv_Lc.of1 hn h1 h2))
  · have e := jv_len1 hl rfl; subst e; obtain ⟨x, rfl, h1⟩ := jv_stA_eq h
    exact lv_astore_n hx hb hdg rfl hL.has (hn ▸ jv_set1_lt h1) rfl (fun ls' h2 => k ls' (jv_Lc.of1 hn h1 h2))
  · have e := jv_len1 hl rfl; subst e; obtain ⟨x, rfl, h1⟩ := jv_stA_eq h
    exact lv_astore hx hb hdg hL.has (hn ▸ jv_set1_lt h1) rfl (fun ls' h2 => k ls' (jv_Lc.of1 hn h1 h2))
  · have e := jv_len1 hl rfl; subst e; obtain ⟨x, rfl, h1⟩ := jv_stD_eq h
    exact lv_dstore_n hx hb hdg rfl hL.has (hn ▸ jv_set2_lt h1) rfl (fun ls' h2 => k ls' (jv_Lc.of2 hn h1 h2))
  · have e := jv_len1 hl rfl; subst e; obtain ⟨x, rfl, h1⟩ := jv_stD_eq h
    exact lv_dstore hx hb hdg hL.has (hn ▸ jv_set2_lt h1) rfl (fun ls' h2 => k ls' (jv_Lc.of2 hn h1 h2))
  · have e := jv_len1 hl rfl; subst e
    split at h
    · rename_i x hx1
      split at h
      · rename_i h1
        cases h
        obtain ⟨q, hq⟩ := List.getElem?_of_mem (jv_prs_mem (ad := ad).mpr ⟨_, hx1, rfl⟩)
        exact lv_iinc hx hb hdg hL.has hq rfl (hn ▸ jv_set1_lt h1) rfl (fun ls' h2 => k ls' (jv_Lc.of1 hn h1 h2))
      · cases h
    · cases h
  · cases h
end JSND
end
section
/-! THE J MACHINE IS RIGHT: what reads and writes cells -/
/-- the base of the new cells, the script's address, the texts' addresses -/
abbrev jv_G : Type := Nat × Nat × (Nat → Nat)
def jv_ad (G : jv_G) (k : Nat) : Nat := if k < 1000000 then G.1 + k else if k = 1000000 then G.2.1 else G.2.2 (k - 1000001)
theorem jv_ad_lt {G : jv_G} {k : Nat} (h : k < 1000000) : jv_ad G k = G.1 + k := if_pos h
theorem jv_ad_scr {G : jv_G} : jv_ad G 1000000 = G.2.1 := rfl
theorem jv_ad_txt {G : jv_G} (i : Nat) : jv_ad G (1000001 + i) = G.2.2 i := by
  unfold jv_ad
  rw [if_neg (by omega), if_neg (by omega), show 1000001 + i - 1000001 = i by omega]
def jv_ce (dA : Nat → ClassId) (ad : Nat → Nat) (x : jv_E) : va_E := match x with
  | .inl (ty, n, f) => .inl (dA ty, n, .inl f)
  | .inr (.inl (ty, n, f)) => .inl (dA ty, n, .inr (.inr (.inr (.inr (fun j => (f j).map ad)))))
  | .inr (.inr (c, fs)) => .inr (c, fs.map (jv_vl ad))
/-- the J machine's cells as a world of the kit's -/
def jv_ws (dA : Nat → ClassId) (G : jv_G) (h : jv_H) : va_W := (List.range h.2.1).map (fun k => (G.1 + k, jv_ce dA (jv_ad G) (h.1 k)))
theorem jv_ws_get {dA : Nat → ClassId} {G : jv_G} {h : jv_H} {k : Nat} (hk : k < h.2.1) : (jv_ws dA G h)[k]? = some (G.1 + k, jv_ce dA (jv_ad G) (h.1 k)) := by
  simp [jv_ws, hk]
theorem jv_ws_inv {dA : Nat → ClassId} {G : jv_G} {h : jv_H} {k : Nat} {q : Nat × va_E} (hk : (jv_ws dA G h)[k]? = some q) : q.1 = G.1 + k := by
  unfold jv_ws at hk
  rw [List.getElem?_map] at hk
  cases hr : (List.range h.2.1)[k]? with
  | none => rw [hr] at hk; cases hk
  | some j =>
    rw [hr] at hk
    have hj : j = k := by
      have h1 := List.getElem?_eq_some_iff.mp hr
      obtain ⟨h2, h3⟩ := h1
      rw [List.getElem_range] at h3
      exact h3.symm
    subst hj
    cases hk
    rfl
theorem jv_ws_set {dA : Nat → ClassId} {G : jv_G} {h : jv_H} {k : Nat} (x : jv_E) (hk : k < h.2.1) : (jv_ws dA G h).set k (G.1 + k, jv_ce dA (jv_ad G) x) = jv_ws dA G (jv_put h k x) := by
  apply List.ext_getElem?
  intro j
  by_cases hj : k = j
  · subst hj
    rw [List.getElem?_set_self (by simp [jv_ws, hk]), jv_ws_get (h := jv_put h k x) hk]
    simp [jv_put, jv_up]
  · rw [List.getElem?_set_ne hj]
    by_cases hlt : j < h.2.1
    · rw [jv_ws_get hlt, jv_ws_get (h := jv_put h k x) hlt]
      simp [jv_put, jv_up, Ne.symm hj]
    · rw [List.getElem?_eq_none (by simp [jv_ws]; omega), List.getElem?_eq_none (by simp [jv_ws, jv_put]; omega)]
theorem jv_ws_add {dA : Nat → ClassId} {G : jv_G} {h : jv_H} (x : jv_E) (n : Nat) : jv_ws dA G (jv_add h x n) = jv_ws dA G h ++ [(G.1 + h.2.1, jv_ce dA (jv_ad G) x)] := by
  unfold jv_ws jv_add
  simp only [List.range_succ, List.map_append, List.map_cons, List.map_nil]
  congr 1
  · apply List.map_congr_left
    intro k hk
    have h1 := List.mem_range.mp hk
    simp [jv_up, Nat.ne_of_lt h1]
  · simp [jv_up]
theorem jv_ws_D {dA : Nat → ClassId} {G : jv_G} {h : jv_H} : va_D (fun q => G.1 ≤ q) (jv_ws dA G h) := by
  refine ⟨fun i j p q hp hq hpq => ?_, fun k q hk => ?_⟩
  · rw [jv_ws_inv hp, jv_ws_inv hq] at hpq
    omega
  · show G.1 ≤ q.1
    rw [jv_ws_inv hk]
    omega
/-- what never changes: the script -/
def jv_fix (L : Nat) (xs : Nat → Int32) (h : jv_H) : Prop := h.1 1000000 = .inl (9, L, xs)
theorem jv_fix.up {L : Nat} {xs : Nat → Int32} {h h' : jv_H} (hf : jv_fix L xs h) {k : Nat} (hk : k < 1000000) {x : jv_E} (he : h'.1 = jv_up h.1 k x) : jv_fix L xs h' := by
  unfold jv_fix
  rw [he]
  unfold jv_up
  rw [if_neg (by omega)]
  exact hf
def jv_Rep (D : va_G) (dA : Nat → ClassId) (G : jv_G) (L : Nat) (xs : Nat → Int32) (h : jv_H) (H : Heap) : Prop := H.size = G.1 + h.2.1 ∧ h.2.1 ≤ 1000000 ∧ va_P D vwCl (jv_ws dA G h) H ∧ jv_fix L xs h
abbrev jv_tys (dA : Nat → ClassId) : List (ClassId × FieldType) := [(dA 0, .int), (dA 1, .boolean), (dA 2, .object "SeatSwap$Traveller"), (dA 3, .object "SeatSwap$Train")]
/-- what is said of classes, nest mates and the JDK's statics -/
def jv_K2 (G : jv_G) (U : State) : Prop := va_AO "SeatSwap$Traveller" U ∧ va_AO "SeatSwap$Train" U ∧ (∀ w ∈ jv_nests, va_Nw w U) ∧ va_Z "java/lang/String" "COMPACT_STRINGS" "Z" (.int 1) (fun q => G.1 ≤ q) U U.heap ∧
  ∃ v : Value, (v = .null ∨ ∃ a, v = .ref a) ∧ va_Z "jdk/internal/util/Preconditions" "SIOOBE_FORMATTER" "Ljava/util/function/BiFunction;" v (fun q => G.1 ≤ q) U U.heap
/-- what a method knows beside its cells -/
def jv_Kn (D : va_G) (dA : Nat → ClassId) (G : jv_G) (adV : Nat → Nat) (L : Nat) (xs : Nat → Int32) (U : State) : Prop :=
  va_K D vwCl (jv_tys dA) U ∧ va_X G.2.1 L xs U U.heap ∧ G.2.1 < G.1 ∧ G.1 ≤ U.heap.size ∧ vk_S 20 jv_lens jv_byt G.2.2 adV (fun q => G.1 ≤ q) U U.heap ∧ (∀ (i : Nat) (q : String × Nat × String), jv_str[i]? = some q → vk_R q.1 q.2.1 q.2.2 (G.2.2 i) U) ∧ jv_K2 G U
theorem jv_vl_fits (ad : Nat → Nat) (ty : FieldType) (v : Value) : fits ty (jv_vl ad v) = fits ty v := by
  cases v <;> first | rfl | (cases ty <;> rfl)
theorem jv_vl_narrow (ad : Nat → Nat) (ty : FieldType) (v : Value) (h : narrow ty v = v) : narrow ty (jv_vl ad v) = jv_vl ad v := by
  cases v <;> first | exact h | (cases ty <;> rfl)
theorem jv_vl_default (ad : Nat → Nat) (ty : FieldType) : jv_vl ad (defaultValue ty) = defaultValue ty := by
  cases ty <;> rfl
section JHP
variable {p : Program} {l : Launch} {e : Env} {R : Room} {s : State} {m : MethodId} {args : Array Value} {below : List Frame} {meth : Method} {c : Code} {H : Heap} {locs : List Loc} {cells slots : Nat} {Q : State → Prop}
variable {cc : ByteArray} {pc : Nat} {ls : Array Slot} {rest : List Value} {D : va_G} {cl : List vw_C} {A : Nat → Prop} {a : Nat} {tys : List (ClassId × FieldType)} {ws : va_W} {H0 : Heap}
/-- a field is written (a final one: in its class's constructor), and nothing is made -/
theorem jv_putW (hexec : p.tables.exec = Jvm.exec) (hb : c.code = cc) {own C : String} {T : u_T} {N ci index : Nat} {Ts : List Cond} (hts : ∀ w ∈ Ts, w.before args s = true) (hin : ∀ w ∈ u_ws C T N, w ∈ Ts) (ty0 : Nat → FieldType) (hty : ∀ k, k < N → parseFieldDescriptor (T k).2.2.1 = some (ty0 k)) (hnm : ∀ a, a < N → ∀ b, b < N → a ≠ b → (T a).2.1 ≠ (T b).2.1) (hown : s.vm.findClass own = some m.cls)
    (hK : va_K D cl tys s) (hP : va_P D cl ws H) (hD : va_D A ws) (hS0 : va_S A H0 H locs) (q0 : Nat) {fs : List Value} (he : ws[q0]? = some (a, .inr (ci, fs))) (hc : cl[ci]? = some (C, T, N)) (k : Nat) (hk : k < N) (hlink : (Cond.fieldLink own index (T k).1 (T k).2.1 (T k).2.2.1).before args s = true) (hfin : (T k).2.2.2 = false ∨ ((T k).2.2.2 = true ∧ meth.name = "<init>" ∧ (T k).1 = own))
    {v : Value} (hn : narrow (ty0 k) v = v) (hfit : fits (ty0 k) v = true) (hl : k < fs.length) (hdg : decode cc pc = .ok (.putfield index, 3))
    (kk : ∀ (H1 : Heap) (locs1 : List Loc), H1.size = H.size → va_P D cl (ws.set q0 (a, .inr (ci, fs.set k v))) H1 → va_S A H0 H1 locs1 → W p l e R s m args below meth c H1 locs1 cells slots Q (F0 m (pc + 3) ls rest)) : W p l e R s m args below meth c H locs cells slots Q (F0 m pc ls (v :: .ref a :: rest)) := by
  have hap := va_apart (own := own) hts hin ty0 hty hnm hK hc
  obtain ⟨r, h1, cell, q1, q2, q3, q4⟩ := hP q0 _ he
  have hr : r = (C, T, N) := Option.some.inj (h1.symm.trans hc)
  subst hr
  obtain ⟨hS, hfc, kC, hkC, hkind⟩ := hK.1 ci _ hc
  obtain ⟨cf, kf, fi, f, hi, hsl⟩ := hS k hk
  have hst := (u_facts hfc hkC (u_lays hts hin hk) hi).1
  have fin : ∀ H' : Heap, H'[a]? = some (cell.setSlot f.slot v) → (∀ q, q ≠ a → H'[q]? = H[q]?) → va_P D cl (ws.set q0 (a, .inr (ci, fs.set k v))) H' := by
    intro H' e1 e3
    rw [hsl] at e1
    exact hP.set hD he ⟨_, hc, t_OB.to (V := updV (vp_V fs) k v) ⟨_, e1, q2, q3, t_set q4 hap hk v⟩ (fun j _ => vp_updV_set hl v j)⟩ e3
  have hlay := hts _ (hin _ (u_in_lay hk))
  unfold u_lay at hlay
  rcases hfin with hfin | ⟨hfin, hin2, hdecl⟩
  · rw [if_neg (by rw [hfin]; decide)] at hlay
    have h6 := u_store hfc hkC hkind hlay hi (hty k hk) hn hfit
    exact W.putK hexec hb (f := f) ⟨hown, hlink, ⟨_, _, _, hi⟩, hst⟩ (by rw [q2]; exact h6) q1 q3 (by rw [hsl]; exact k2_hasslot (q4 k hk)) rfl rfl hdg fun H' e1 e2 e3 => kk H' _ e2 (fin H' e1 e3) (hS0.put e2 e3 (hD.2 q0 _ he))
  · rw [if_pos hfin] at hlay
    have hcf : m.cls = cf := by
      obtain ⟨_, _, c', _, _, _, -, -, hf', -, -, -, hown2, -⟩ := Cond.laysFinal_spec hlay
      have e1 : c' = cf := by have := hi.symm.trans hf'; simp at this; exact this.1.symm
      rw [hdecl] at hown2
      rw [← e1]; exact Option.some.inj (hown.symm.trans hown2)
    have h6 := u_fits hfc hkC hkind (Or.inr hlay) hi (hty k hk) hn hfit
    exact W.putFinK hexec hb hown hlink hi hst hcf hin2 (by rw [q2]; exact h6) q1 q3 (by rw [hsl]; exact k2_hasslot (q4 k hk)) rfl rfl hdg fun H' e1 e2 e3 => kk H' _ e2 (fin H' e1 e3) (hS0.put e2 e3 (hD.2 q0 _ he))
theorem jv_iastW (hexec : p.tables.exec = Jvm.exec) (hb : c.code = cc) (hK : va_K D cl tys s) (hP : va_P D cl ws H) (hD : va_D A ws) (hS : va_S A H0 H locs) (q0 t0 : Nat) {cA : ClassId} {n : Nat} {f : Nat → Int32} (ha : ws[q0]? = some (a, .inl (cA, n, .inl f))) (ht : tys[t0]? = some (cA, .int)) {i : Int32} {x : Int32} (hin : vp_in i n) (hdg : decode cc pc = .ok (.iastore, 1))
    (kk : ∀ (H1 : Heap) (locs1 : List Loc), H1.size = H.size → va_P D cl (ws.set q0 (a, .inl (cA, n, .inl (upd f i.toNatClampNeg x)))) H1 → va_S A H0 H1 locs1 → W p l e R s m args below meth c H1 locs1 cells slots Q (F0 m (pc + 1) ls rest)) : W p l e R s m args below meth c H locs cells slots Q (F0 m pc ls (.int x :: .int i :: .ref a :: rest)) := by
  refine W.iast hexec hb (hP q0 _ ha) ((hK.2 t0 _ ht).1 n (fun j => .int (f j))) (fun q => by cases q) (by show ¬ (i < 0 ∨ (arrV _ _ _).slots.size ≤ _); rw [arrV_size]; exact hin) rfl rfl hdg fun H1 e z oq => ?_
  refine kk H1 _ z (hP.set hD ha ?_ oq) (hS.put z oq (hD.2 q0 _ ha))
  show H1[a]? = some (vp_cell _ _)
  rw [e, vp_cell_i, vp_cell_i, arrV_store]
  congr 2
  funext q
  by_cases hq : q = i.toNatClampNeg
  · subst hq
    simp [updV, upd]
  · simp [updV, upd, hq]
theorem jv_zastW (hexec : p.tables.exec = Jvm.exec) (hb : c.code = cc) (hK : va_K D cl tys s) (hP : va_P D cl ws H) (hD : va_D A ws) (hS : va_S A H0 H locs) (q0 t0 : Nat) {cA : ClassId} {n : Nat} {f : Nat → Int32} (ha : ws[q0]? = some (a, .inl (cA, n, .inl f))) (ht : tys[t0]? = some (cA, .boolean)) {i : Int32} {x : Int32} (hx1 : x &&& 1 = x) (hin : vp_in i n) (hdg : decode cc pc = .ok (.bastore, 1))
    (kk : ∀ (H1 : Heap) (locs1 : List Loc), H1.size = H.size → va_P D cl (ws.set q0 (a, .inl (cA, n, .inl (upd f i.toNatClampNeg x)))) H1 → va_S A H0 H1 locs1 → W p l e R s m args below meth c H1 locs1 cells slots Q (F0 m (pc + 1) ls rest)) : W p l e R s m args below meth c H locs cells slots Q (F0 m pc ls (.int x :: .int i :: .ref a :: rest)) := by
  refine W.zast hexec hb (hP q0 _ ha) ((hK.2 t0 _ ht).1 n (fun j => .int (f j))) (fun q => by cases q) (by show ¬ (i < 0 ∨ (arrV _ _ _).slots.size ≤ _); rw [arrV_size]; exact hin) rfl rfl hdg fun H1 e z oq => ?_
  refine kk H1 _ z (hP.set hD ha ?_ oq) (hS.put z oq (hD.2 q0 _ ha))
  show H1[a]? = some (vp_cell _ _)
  rw [e, vp_cell_i, vp_cell_i, arrV_store]
  congr 2
  funext q
  by_cases hq : q = i.toNatClampNeg
  · subst hq
    simp [updV, upd, narrow, hx1]
  · simp [updV, upd, hq]
theorem jv_aastW (hexec : p.tables.exec = Jvm.exec) (hb : c.code = cc) (hK : va_K D cl tys s) (hP : va_P D cl ws H) (hD : va_D A ws) (hS : va_S A H0 H locs) (q0 t0 qk ci : Nat) {cA : ClassId} {r : vw_C} {n v : Nat} {vs : List Value} {f : Nat → Option Nat} (ha : ws[q0]? = some (a, .inl (cA, n, .inr (.inr (.inr (.inr f)))))) (ht : tys[t0]? = some (cA, .object r.1)) (hv : ws[qk]? = some (v, .inr (ci, vs))) (hc : cl[ci]? = some r) {i : Int32} (hin : vp_in i n) (hdg : decode cc pc = .ok (.aastore, 1))
    (kk : ∀ (H1 : Heap) (locs1 : List Loc), H1.size = H.size → va_P D cl (ws.set q0 (a, .inl (cA, n, .inr (.inr (.inr (.inr (va_up f i.toNatClampNeg (some v)))))))) H1 → va_S A H0 H1 locs1 → W p l e R s m args below meth c H1 locs1 cells slots Q (F0 m (pc + 1) ls rest)) : W p l e R s m args below meth c H locs cells slots Q (F0 m pc ls (.ref v :: .int i :: .ref a :: rest)) := by
  have hlt : i.toNatClampNeg < n := Nat.not_le.mp fun q => hin (Or.inr q)
  have h0 : ¬ i < 0 := fun q => hin (Or.inl q)
  obtain ⟨r', hr', cellV, g1, g2, g3, -⟩ := hP qk _ hv
  have hcls := (hK.1 ci r hc).2
  obtain ⟨kA, comp, k1, k2, k3, -⟩ := (hK.2 t0 _ ht).2
  have hcomp : comp = D.1 ci := Option.some.inj (k3.symm.trans hcls.1)
  subst hcomp
  obtain ⟨kC, hkC, -⟩ := hcls.2
  refine W.aast hexec hb (hP q0 _ ha) (fun q h => by cases h) (fun h => by cases h) k1 k2 rfl hkC ⟨h0, by show _ < (arrV _ _ _).slots.size; rw [arrV_size]; exact hlt⟩ g1 (fun q h => by rw [g3] at h; cases h) (by rw [g2]; exact hkC) (by rw [g2]; exact va_assign hcls) rfl rfl hdg fun H1 e z oq => ?_
  refine kk H1 _ z (hP.set hD ha ?_ oq) (hS.put z oq (hD.2 q0 _ ha))
  show H1[a]? = some (vp_cell _ _)
  rw [e, vp_cell_q, vp_cell_q, arrV_store]
  congr 2
  funext q
  by_cases hq : q = i.toNatClampNeg
  · subst hq
    simp [updV, va_up, va_rf]
  · simp [updV, va_up, hq]
end JHP
theorem jv_get_eq {ow idx : Nat} {st st' : List Value} {h : jv_H} (h0 : jv_get ow idx st h = some st') : ∃ (a : Nat) (r : List Value) (cx k : Nat) (fs : List Value) (v : Value), st = .ref a :: r ∧ jv_fld ow idx = some (cx, k) ∧ a < h.2.1 ∧ h.1 a = .inr (.inr (cx, fs)) ∧ fs[k]? = some v ∧ st' = v :: r := by
  unfold jv_get at h0
  split at h0
  · rename_i a r
    split at h0
    · rename_i cx k hf
      split at h0
      · rename_i ha
        split at h0
        · rename_i d fs hc
          split at h0
          · rename_i hd
            subst hd
            split at h0
            · rename_i v hv
              cases h0
              exact ⟨a, r, _, k, fs, v, rfl, hf, ha, hc, hv, rfl⟩
            · cases h0
          · cases h0
        · cases h0
      · cases h0
    · cases h0
  · cases h0
theorem jv_set_eq {ow idx : Nat} {ini : Bool} {st st' : List Value} {h h' : jv_H} (h0 : jv_set ow ini idx st h = some (st', h')) : ∃ (v : Value) (a : Nat) (cx k : Nat) (fs : List Value), st = v :: .ref a :: st' ∧ jv_fld ow idx = some (cx, k) ∧ a < h.2.1 ∧ h.1 a = .inr (.inr (cx, fs)) ∧ k < fs.length ∧ narrow (jv_fty cx k) v = v ∧ fits (jv_fty cx k) v = true ∧ ((jv_fT cx k).2.2.2 = false ∨ (ini = true ∧ cx = ow)) ∧ h' = jv_put h a (.inr (.inr (cx, fs.set k v))) := by
  unfold jv_set at h0
  split at h0
  · rename_i v a r
    split at h0
    · rename_i cx k hf
      split at h0
      · rename_i ha
        obtain ⟨ha, hn, hfi, hfin⟩ := ha
        split at h0
        · rename_i d fs hc
          split at h0
          · rename_i hd
            obtain ⟨hd, hk⟩ := hd
            subst hd
            cases h0
            exact ⟨v, a, _, k, fs, rfl, hf, ha, hc, hk, hn, hfi, hfin, rfl⟩
          · cases h0
        · cases h0
      · cases h0
    · cases h0
  · cases h0
section JHQ
variable {p : Program} {l : Launch} {e : Env} {R : Room} {s : State} {m : MethodId} {args : Array Value} {below : List Frame} {meth : Method} {c : Code} {H : Heap} {locs : List Loc} {cells slots : Nat} {Q : State → Prop}
variable {cc : ByteArray} {pc : Nat} {ls : Array Slot} {D : va_G} {dA : Nat → ClassId} {G : jv_G} {adV : Nat → Nat} {L : Nat} {xs : Nat → Int32}
theorem jv_Rep.at {h : jv_H} (hR : jv_Rep D dA G L xs h H) {a : Nat} (ha : a < h.2.1) {x : jv_E} (he : h.1 a = x) : (jv_ws dA G h)[a]? = some (jv_ad G a, jv_ce dA (jv_ad G) x) := by
  have h1 := hR.2.1
  rw [jv_ad_lt (by omega), ← he]
  exact jv_ws_get ha
theorem jv_Rep.put {h : jv_H} {H1 : Heap} (hR : jv_Rep D dA G L xs h H) {a : Nat} (ha : a < h.2.1) {x : jv_E} (hz : H1.size = H.size) (hP : va_P D vwCl ((jv_ws dA G h).set a (jv_ad G a, jv_ce dA (jv_ad G) x)) H1) : jv_Rep D dA G L xs (jv_put h a x) H1 := by
  have h1 := hR.2.1
  refine ⟨hz.trans hR.1, hR.2.1, ?_, hR.2.2.2.up (k := a) (x := x) (by omega) rfl⟩
  rw [jv_ad_lt (by omega), jv_ws_set x ha] at hP
  exact hP
theorem jv_Rep.add {h : jv_H} {H1 : Heap} (hR : jv_Rep D dA G L xs h H) {x : jv_E} {n : Nat} (hm : h.2.1 + 1 ≤ 1000000) (hz : H1.size = H.size + 1) (o1 : ∀ q : Nat, q < H.size → H1[q]? = H[q]?) (hat : va_at D vwCl (G.1 + h.2.1, jv_ce dA (jv_ad G) x) H1) : jv_Rep D dA G L xs (jv_add h x n) H1 := by
  refine ⟨?_, hm, ?_, hR.2.2.2.up (k := h.2.1) (x := x) (by omega) rfl⟩
  · rw [hz, hR.1]
    show G.1 + h.2.1 + 1 = G.1 + (h.2.1 + 1)
    omega
  · rw [jv_ws_add]
    refine (hR.2.2.1.kept (fun k q hk => o1 q.1 ((hR.2.2.1 k q hk).lt))).app (fun k q hk => ?_)
    have hz : k < 1 := (List.getElem?_eq_some_iff.mp hk).1
    rw [show k = 0 by omega] at hk
    cases hk
    exact hat
theorem jv_grow {A : Nat → Prop} {H0 H1 : Heap} (hS : va_S A H0 H locs) (hz : H1.size = H.size + 1) (o1 : ∀ q : Nat, q < H.size → H1[q]? = H[q]?) : va_S A H0 H1 locs :=
  ⟨Nat.le_trans hS.1 (by omega), fun x h1 h2 => (o1 x (Nat.lt_of_lt_of_le h1 hS.1)).trans (hS.2.1 x h1 h2), hS.2.2⟩
/-- what every case of jv_heap_ok has -/
def jv_Cx (p : Program) (s : State) (m : MethodId) (args : Array Value) (meth : Method) (c : Code) (cc : ByteArray) (ow : Nat) (ini : Bool) (D : va_G) (dA : Nat → ClassId) (G : jv_G) (adV : Nat → Nat) (L : Nat) (xs : Nat → Int32) (h : jv_H) (H : Heap) (locs : List Loc) : Prop :=
  p.tables.exec = Jvm.exec ∧ c.code = cc ∧ s.vm.findClass (jv_own ow) = some m.cls ∧ (∀ w ∈ jv_T, w.before args s = true) ∧ jv_Kn D dA G adV L xs s ∧ jv_Rep D dA G L xs h H ∧ va_S (fun q => G.1 ≤ q) s.heap H locs ∧ (ini = true → meth.name = "<init>")
set_option maxHeartbeats 8000000 in
set_option maxRecDepth 100000 in
theorem jv_h_getfield {ow : Nat} {ini : Bool} {h h' : jv_H} (X : jv_Cx p s m args meth c cc ow ini D dA G adV L xs h H locs) {idx : Nat} {len : Nat} {st st' : List Value} (hdg : decode cc pc = .ok (.getfield idx, len)) (hl : jv_sw (.getfield idx) = true ∨ len = jv_len (.getfield idx)) (h0 : jv_heap ow ini (.getfield idx) st h = some (st', h')) (hm : h'.2.1 ≤ 1000000) (hc : cells + (h'.2.1 - h.2.1) ≤ R.cells) (hs : slots + (h'.2.2 - h.2.2) ≤ R.slots)
    (k : ∀ (H' : Heap) (locs' : List Loc) (cells' slots' : Nat), cells' = cells + (h'.2.1 - h.2.1) → slots' = slots + (h'.2.2 - h.2.2) → jv_Rep D dA G L xs h' H' → va_S (fun q => G.1 ≤ q) s.heap H' locs' → W p l e R s m args below meth c H' locs' cells' slots' Q (F0 m (pc + len) ls (st'.map (jv_vl (jv_ad G))))) :
    W p l e R s m args below meth c H locs cells slots Q (F0 m pc ls (st.map (jv_vl (jv_ad G)))) := by
  obtain ⟨hx, hb, hown, hts, hK, hR, hS, hini⟩ := X
  unfold jv_heap at h0
  dsimp only at h0
  have e := jv_len1 hl rfl; subst e
  split at h0
  · rename_i st1 hg
    cases h0
    obtain ⟨a, r, cx, kf, fs, v, rfl, hf, ha, he, hv, rfl⟩ := jv_get_eq hg
    have hck := jv_ckf_ok hf
    simp only [jv_ckf1, Bool.and_eq_true, decide_eq_true_eq] at hck
    obtain ⟨⟨hcx, hkf⟩, hw⟩ := hck
    exact va_get (D := D) (ci := cx) (v := jv_vl (jv_ad G) v) hx hb hts (jv_ws_in cx hcx) hown hK.1 hR.2.2.1 a (hR.at ha he) (jv_cls_ok cx hcx) kf hkf (hts _ (jv_in_ok hw)) (fun _ q => q) (by rw [List.getElem?_map, hv]; rfl) hdg (k H locs cells slots (by omega) (by omega) hR hS)
  · cases h0
set_option maxHeartbeats 8000000 in
set_option maxRecDepth 100000 in
theorem jv_h_putfield {ow : Nat} {ini : Bool} {h h' : jv_H} (X : jv_Cx p s m args meth c cc ow ini D dA G adV L xs h H locs) {idx : Nat} {len : Nat} {st st' : List Value} (hdg : decode cc pc = .ok (.putfield idx, len)) (hl : jv_sw (.putfield idx) = true ∨ len = jv_len (.putfield idx)) (h0 : jv_heap ow ini (.putfield idx) st h = some (st', h')) (hm : h'.2.1 ≤ 1000000) (hc : cells + (h'.2.1 - h.2.1) ≤ R.cells) (hs : slots + (h'.2.2 - h.2.2) ≤ R.slots)
    (k : ∀ (H' : Heap) (locs' : List Loc) (cells' slots' : Nat), cells' = cells + (h'.2.1 - h.2.1) → slots' = slots + (h'.2.2 - h.2.2) → jv_Rep D dA G L xs h' H' → va_S (fun q => G.1 ≤ q) s.heap H' locs' → W p l e R s m args below meth c H' locs' cells' slots' Q (F0 m (pc + len) ls (st'.map (jv_vl (jv_ad G))))) :
    W p l e R s m args below meth c H locs cells slots Q (F0 m pc ls (st.map (jv_vl (jv_ad G)))) := by
  obtain ⟨hx, hb, hown, hts, hK, hR, hS, hini⟩ := X
  unfold jv_heap at h0
  dsimp only at h0
  have e := jv_len1 hl rfl; subst e
  obtain ⟨v, a, cx, kf, fs, rfl, hf, ha, he, hkl, hn, hfi, hfin, rfl⟩ := jv_set_eq h0
  have hck := jv_ckf_ok hf
  simp only [jv_ckf1, Bool.and_eq_true, decide_eq_true_eq] at hck
  obtain ⟨⟨hcx, hkf⟩, hw⟩ := hck
  refine jv_putW (D := D) (ci := cx) (v := jv_vl (jv_ad G) v) hx hb hts (jv_ws_in cx hcx) (jv_fty cx) (jv_ty_ok cx hcx) (jv_nm_ok cx hcx) hown hK.1 hR.2.2.1 jv_ws_D hS a (hR.at ha he) (jv_cls_ok cx hcx) kf hkf (hts _ (jv_in_ok hw)) ?_ (jv_vl_narrow _ _ _ hn) (by rw [jv_vl_fits]; exact hfi) (by rw [List.length_map]; exact hkl) hdg (fun H1 locs1 z hP1 hS1 => ?_)
  · rcases hfin with q | ⟨q1, q2⟩
    · exact Or.inl q
    · by_cases hf2 : (jv_fT cx kf).2.2.2 = true
      · exact Or.inr ⟨hf2, hini q1, by rw [← q2]; exact jv_dcl_ok cx hcx kf hkf⟩
      · exact Or.inl (by simpa using hf2)
  · refine k H1 locs1 cells slots (by show cells = cells + (h.2.1 - h.2.1); omega) (by show slots = slots + (h.2.2 - h.2.2); omega) (hR.put ha z ?_) hS1
    rw [← List.map_set] at hP1
    exact hP1
set_option maxHeartbeats 8000000 in
set_option maxRecDepth 100000 in
theorem jv_h_iaload {ow : Nat} {ini : Bool} {h h' : jv_H} (X : jv_Cx p s m args meth c cc ow ini D dA G adV L xs h H locs)  {len : Nat} {st st' : List Value} (hdg : decode cc pc = .ok (.iaload, len)) (hl : jv_sw (.iaload) = true ∨ len = jv_len (.iaload)) (h0 : jv_heap ow ini (.iaload) st h = some (st', h')) (hm : h'.2.1 ≤ 1000000) (hc : cells + (h'.2.1 - h.2.1) ≤ R.cells) (hs : slots + (h'.2.2 - h.2.2) ≤ R.slots)
    (k : ∀ (H' : Heap) (locs' : List Loc) (cells' slots' : Nat), cells' = cells + (h'.2.1 - h.2.1) → slots' = slots + (h'.2.2 - h.2.2) → jv_Rep D dA G L xs h' H' → va_S (fun q => G.1 ≤ q) s.heap H' locs' → W p l e R s m args below meth c H' locs' cells' slots' Q (F0 m (pc + len) ls (st'.map (jv_vl (jv_ad G))))) :
    W p l e R s m args below meth c H locs cells slots Q (F0 m pc ls (st.map (jv_vl (jv_ad G)))) := by
  obtain ⟨hx, hb, hown, hts, hK, hR, hS, hini⟩ := X
  unfold jv_heap at h0
  dsimp only at h0
  have e := jv_len1 hl rfl; subst e
  split at h0
  · rename_i j a r
    split at h0
    · split at h0
      · rename_i ty n f he
        split at h0
        · rename_i hq
          cases h0
          obtain ⟨h1 | h1, hin⟩ := hq
          · obtain ⟨rfl, ha⟩ := h1
            exact va_iald (D := D) hx hb hK.1 hR.2.2.1 a 0 (hR.at ha he) rfl hin hdg (k H locs cells slots (by omega) (by omega) hR hS)
          · obtain ⟨rfl, rfl⟩ := h1
            rw [show h.1 1000000 = .inl (9, L, xs) from hR.2.2.2] at he
            cases he
            show W p l e R s m args below meth c H locs cells slots Q (F0 m pc ls (.int j :: .ref (jv_ad G 1000000) :: r.map (jv_vl (jv_ad G))))
            rw [jv_ad_scr]
            exact va_sld hx hb hK.2.1 (Nat.lt_of_lt_of_le hK.2.2.1 hK.2.2.2.1) (Nat.not_le.mpr hK.2.2.1) hS hin hdg (k H locs cells slots (by omega) (by omega) hR hS)
        · cases h0
      · cases h0
    · cases h0
  · cases h0
set_option maxHeartbeats 8000000 in
set_option maxRecDepth 100000 in
theorem jv_h_baload {ow : Nat} {ini : Bool} {h h' : jv_H} (X : jv_Cx p s m args meth c cc ow ini D dA G adV L xs h H locs)  {len : Nat} {st st' : List Value} (hdg : decode cc pc = .ok (.baload, len)) (hl : jv_sw (.baload) = true ∨ len = jv_len (.baload)) (h0 : jv_heap ow ini (.baload) st h = some (st', h')) (hm : h'.2.1 ≤ 1000000) (hc : cells + (h'.2.1 - h.2.1) ≤ R.cells) (hs : slots + (h'.2.2 - h.2.2) ≤ R.slots)
    (k : ∀ (H' : Heap) (locs' : List Loc) (cells' slots' : Nat), cells' = cells + (h'.2.1 - h.2.1) → slots' = slots + (h'.2.2 - h.2.2) → jv_Rep D dA G L xs h' H' → va_S (fun q => G.1 ≤ q) s.heap H' locs' → W p l e R s m args below meth c H' locs' cells' slots' Q (F0 m (pc + len) ls (st'.map (jv_vl (jv_ad G))))) :
    W p l e R s m args below meth c H locs cells slots Q (F0 m pc ls (st.map (jv_vl (jv_ad G)))) := by
  obtain ⟨hx, hb, hown, hts, hK, hR, hS, hini⟩ := X
  unfold jv_heap at h0
  dsimp only at h0
  have e := jv_len1 hl rfl; subst e
  split at h0
  · rename_i j a r
    split at h0
    · rename_i ha
      split at h0
      · rename_i ty n f he
        split at h0
        · rename_i hq
          cases h0
          obtain ⟨rfl, hin⟩ := hq
          exact va_zald (D := D) hx hb hK.1 hR.2.2.1 a 1 (hR.at ha he) rfl hin hdg (k H locs cells slots (by omega) (by omega) hR hS)
        · cases h0
      · cases h0
    · cases h0
  · cases h0
set_option maxHeartbeats 8000000 in
set_option maxRecDepth 100000 in
theorem jv_h_aaload {ow : Nat} {ini : Bool} {h h' : jv_H} (X : jv_Cx p s m args meth c cc ow ini D dA G adV L xs h H locs)  {len : Nat} {st st' : List Value} (hdg : decode cc pc = .ok (.aaload, len)) (hl : jv_sw (.aaload) = true ∨ len = jv_len (.aaload)) (h0 : jv_heap ow ini (.aaload) st h = some (st', h')) (hm : h'.2.1 ≤ 1000000) (hc : cells + (h'.2.1 - h.2.1) ≤ R.cells) (hs : slots + (h'.2.2 - h.2.2) ≤ R.slots)
    (k : ∀ (H' : Heap) (locs' : List Loc) (cells' slots' : Nat), cells' = cells + (h'.2.1 - h.2.1) → slots' = slots + (h'.2.2 - h.2.2) → jv_Rep D dA G L xs h' H' → va_S (fun q => G.1 ≤ q) s.heap H' locs' → W p l e R s m args below meth c H' locs' cells' slots' Q (F0 m (pc + len) ls (st'.map (jv_vl (jv_ad G))))) :
    W p l e R s m args below meth c H locs cells slots Q (F0 m pc ls (st.map (jv_vl (jv_ad G)))) := by
  obtain ⟨hx, hb, hown, hts, hK, hR, hS, hini⟩ := X
  unfold jv_heap at h0
  dsimp only at h0
  have e := jv_len1 hl rfl; subst e
  split at h0
  · rename_i j a r
    split at h0
    · rename_i ha
      split at h0
      · rename_i ty n f he
        split at h0
        · rename_i hq
          obtain ⟨hty, hin⟩ := hq
          split at h0
          · rename_i b hfb
            cases h0
            have kk := k H locs cells slots (by omega) (by omega) hR hS
            rcases hty with rfl | rfl
            · refine va_aldq (D := D) hx hb hK.1 hR.2.2.1 a 2 (hR.at ha he) rfl hin hdg ?_
              rw [hfb]
              exact kk
            · refine va_aldq (D := D) hx hb hK.1 hR.2.2.1 a 3 (hR.at ha he) rfl hin hdg ?_
              rw [hfb]
              exact kk
          · cases h0
        · cases h0
      · cases h0
    · cases h0
  · cases h0
set_option maxHeartbeats 8000000 in
set_option maxRecDepth 100000 in
theorem jv_h_iastore {ow : Nat} {ini : Bool} {h h' : jv_H} (X : jv_Cx p s m args meth c cc ow ini D dA G adV L xs h H locs)  {len : Nat} {st st' : List Value} (hdg : decode cc pc = .ok (.iastore, len)) (hl : jv_sw (.iastore) = true ∨ len = jv_len (.iastore)) (h0 : jv_heap ow ini (.iastore) st h = some (st', h')) (hm : h'.2.1 ≤ 1000000) (hc : cells + (h'.2.1 - h.2.1) ≤ R.cells) (hs : slots + (h'.2.2 - h.2.2) ≤ R.slots)
    (k : ∀ (H' : Heap) (locs' : List Loc) (cells' slots' : Nat), cells' = cells + (h'.2.1 - h.2.1) → slots' = slots + (h'.2.2 - h.2.2) → jv_Rep D dA G L xs h' H' → va_S (fun q => G.1 ≤ q) s.heap H' locs' → W p l e R s m args below meth c H' locs' cells' slots' Q (F0 m (pc + len) ls (st'.map (jv_vl (jv_ad G))))) :
    W p l e R s m args below meth c H locs cells slots Q (F0 m pc ls (st.map (jv_vl (jv_ad G)))) := by
  obtain ⟨hx, hb, hown, hts, hK, hR, hS, hini⟩ := X
  unfold jv_heap at h0
  dsimp only at h0
  have e := jv_len1 hl rfl; subst e
  split at h0
  · rename_i x j a r
    split at h0
    · rename_i ha
      split at h0
      · rename_i ty n f he
        split at h0
        · rename_i hq
          obtain ⟨rfl, hin⟩ := hq
          cases h0
          exact jv_iastW (D := D) hx hb hK.1 hR.2.2.1 jv_ws_D hS a 0 (hR.at ha he) rfl hin hdg (fun H1 locs1 z hP1 hS1 => k H1 locs1 cells slots (by show cells = cells + (h.2.1 - h.2.1); omega) (by show slots = slots + (h.2.2 - h.2.2); omega) (hR.put ha z hP1) hS1)
        · cases h0
      · cases h0
    · cases h0
  · cases h0
set_option maxHeartbeats 8000000 in
set_option maxRecDepth 100000 in
theorem jv_h_bastore {ow : Nat} {ini : Bool} {h h' : jv_H} (X : jv_Cx p s m args meth c cc ow ini D dA G adV L xs h H locs)  {len : Nat} {st st' : List Value} (hdg : decode cc pc = .ok (.bastore, len)) (hl : jv_sw (.bastore) = true ∨ len = jv_len (.bastore)) (h0 : jv_heap ow ini (.bastore) st h = some (st', h')) (hm : h'.2.1 ≤ 1000000) (hc : cells + (h'.2.1 - h.2.1) ≤ R.cells) (hs : slots + (h'.2.2 - h.2.2) ≤ R.slots)
    (k : ∀ (H' : Heap) (locs' : List Loc) (cells' slots' : Nat), cells' = cells + (h'.2.1 - h.2.1) → slots' = slots + (h'.2.2 - h.2.2) → jv_Rep D dA G L xs h' H' → va_S (fun q => G.1 ≤ q) s.heap H' locs' → W p l e R s m args below meth c H' locs' cells' slots' Q (F0 m (pc + len) ls (st'.map (jv_vl (jv_ad G))))) :
    W p l e R s m args below meth c H locs cells slots Q (F0 m pc ls (st.map (jv_vl (jv_ad G)))) := by
  obtain ⟨hx, hb, hown, hts, hK, hR, hS, hini⟩ := X
  unfold jv_heap at h0
  dsimp only at h0
  have e := jv_len1 hl rfl; subst e
  split at h0
  · rename_i x j a r
    split at h0
    · rename_i ha
      obtain ⟨ha, hx1⟩ := ha
      split at h0
      · rename_i ty n f he
        split at h0
        · rename_i hq
          obtain ⟨rfl, hin⟩ := hq
          cases h0
          exact jv_zastW (D := D) hx hb hK.1 hR.2.2.1 jv_ws_D hS a 1 (hR.at ha he) rfl hx1 hin hdg (fun H1 locs1 z hP1 hS1 => k H1 locs1 cells slots (by show cells = cells + (h.2.1 - h.2.1); omega) (by show slots = slots + (h.2.2 - h.2.2); omega) (hR.put ha z hP1) hS1)
        · cases h0
      · cases h0
    · cases h0
  · cases h0
set_option maxHeartbeats 8000000 in
set_option maxRecDepth 100000 in
theorem jv_h_aastore {ow : Nat} {ini : Bool} {h h' : jv_H} (X : jv_Cx p s m args meth c cc ow ini D dA G adV L xs h H locs)  {len : Nat} {st st' : List Value} (hdg : decode cc pc = .ok (.aastore, len)) (hl : jv_sw (.aastore) = true ∨ len = jv_len (.aastore)) (h0 : jv_heap ow ini (.aastore) st h = some (st', h')) (hm : h'.2.1 ≤ 1000000) (hc : cells + (h'.2.1 - h.2.1) ≤ R.cells) (hs : slots + (h'.2.2 - h.2.2) ≤ R.slots)
    (k : ∀ (H' : Heap) (locs' : List Loc) (cells' slots' : Nat), cells' = cells + (h'.2.1 - h.2.1) → slots' = slots + (h'.2.2 - h.2.2) → jv_Rep D dA G L xs h' H' → va_S (fun q => G.1 ≤ q) s.heap H' locs' → W p l e R s m args below meth c H' locs' cells' slots' Q (F0 m (pc + len) ls (st'.map (jv_vl (jv_ad G))))) :
    W p l e R s m args below meth c H locs cells slots Q (F0 m pc ls (st.map (jv_vl (jv_ad G)))) := by
  obtain ⟨hx, hb, hown, hts, hK, hR, hS, hini⟩ := X
  unfold jv_heap at h0
  dsimp only at h0
  have e := jv_len1 hl rfl; subst e
  split at h0
  · rename_i b j a r
    split at h0
    · rename_i ha
      obtain ⟨ha, hb1⟩ := ha
      split at h0
      · rename_i ty n f d vs he heb
        split at h0
        · rename_i hq
          obtain ⟨hty, hin⟩ := hq
          cases h0
          have hup : (fun q => ((va_up f j.toNatClampNeg (some b)) q).map (jv_ad G)) = va_up (fun q => (f q).map (jv_ad G)) j.toNatClampNeg (some (jv_ad G b)) := by
            funext q
            unfold va_up
            split <;> rfl
          have fin : ∀ (H1 : Heap) (locs1 : List Loc), H1.size = H.size → va_P D vwCl ((jv_ws dA G h).set a (jv_ad G a, .inl (dA ty, n, .inr (.inr (.inr (.inr (va_up (fun q => (f q).map (jv_ad G)) j.toNatClampNeg (some (jv_ad G b))))))))) H1 → va_S (fun q => G.1 ≤ q) s.heap H1 locs1 → W p l e R s m args below meth c H1 locs1 cells slots Q (F0 m (pc + 1) ls (st'.map (jv_vl (jv_ad G)))) := by
            intro H1 locs1 z hP1 hS1
            rw [← hup] at hP1
            exact k H1 locs1 cells slots (by show cells = cells + (h.2.1 - h.2.1); omega) (by show slots = slots + (h.2.2 - h.2.2); omega) (hR.put (x := .inr (.inl (ty, n, va_up f j.toNatClampNeg (some b)))) ha z hP1) hS1
          rcases hty with ⟨rfl, rfl⟩ | ⟨rfl, rfl⟩
          · exact jv_aastW (D := D) (r := (jv_own 6, jv_fT 6, jv_fn 6)) hx hb hK.1 hR.2.2.1 jv_ws_D hS a 2 b 6 (hR.at ha he) rfl (hR.at hb1 heb) (jv_cls_ok 6 (by decide)) hin hdg fin
          · exact jv_aastW (D := D) (r := (jv_own 5, jv_fT 5, jv_fn 5)) hx hb hK.1 hR.2.2.1 jv_ws_D hS a 3 b 5 (hR.at ha he) rfl (hR.at hb1 heb) (jv_cls_ok 5 (by decide)) hin hdg fin
        · cases h0
      · cases h0
    · cases h0
  · cases h0
set_option maxHeartbeats 8000000 in
set_option maxRecDepth 100000 in
theorem jv_h_arraylength {ow : Nat} {ini : Bool} {h h' : jv_H} (X : jv_Cx p s m args meth c cc ow ini D dA G adV L xs h H locs)  {len : Nat} {st st' : List Value} (hdg : decode cc pc = .ok (.arraylength, len)) (hl : jv_sw (.arraylength) = true ∨ len = jv_len (.arraylength)) (h0 : jv_heap ow ini (.arraylength) st h = some (st', h')) (hm : h'.2.1 ≤ 1000000) (hc : cells + (h'.2.1 - h.2.1) ≤ R.cells) (hs : slots + (h'.2.2 - h.2.2) ≤ R.slots)
    (k : ∀ (H' : Heap) (locs' : List Loc) (cells' slots' : Nat), cells' = cells + (h'.2.1 - h.2.1) → slots' = slots + (h'.2.2 - h.2.2) → jv_Rep D dA G L xs h' H' → va_S (fun q => G.1 ≤ q) s.heap H' locs' → W p l e R s m args below meth c H' locs' cells' slots' Q (F0 m (pc + len) ls (st'.map (jv_vl (jv_ad G))))) :
    W p l e R s m args below meth c H locs cells slots Q (F0 m pc ls (st.map (jv_vl (jv_ad G)))) := by
  obtain ⟨hx, hb, hown, hts, hK, hR, hS, hini⟩ := X
  unfold jv_heap at h0
  dsimp only at h0
  have e := jv_len1 hl rfl; subst e
  split at h0
  · rename_i a r
    split at h0
    · split at h0
      · rename_i ty n f he
        split at h0
        · rename_i hq
          cases h0
          have kk := k H locs cells slots (by omega) (by omega) hR hS
          rcases hq with ⟨hty, ha⟩ | ⟨rfl, rfl⟩
          · match ty, hty with
            | 0, _ => exact va_alen (D := D) hx hb hK.1 hR.2.2.1 a 0 (hR.at ha he) rfl rfl hdg kk
            | 1, _ => exact va_alen (D := D) hx hb hK.1 hR.2.2.1 a 1 (hR.at ha he) rfl rfl hdg kk
            | q + 2, hq => omega
          · rw [show h.1 1000000 = .inl (9, L, xs) from hR.2.2.2] at he
            cases he
            show W p l e R s m args below meth c H locs cells slots Q (F0 m pc ls (.ref (jv_ad G 1000000) :: r.map (jv_vl (jv_ad G))))
            rw [jv_ad_scr]
            exact va_slen hx hb hK.2.1 (Nat.lt_of_lt_of_le hK.2.2.1 hK.2.2.2.1) (Nat.not_le.mpr hK.2.2.1) hS hdg kk
        · cases h0
      · rename_i ty n f he
        split at h0
        · rename_i hq
          cases h0
          obtain ⟨hty, ha⟩ := hq
          have kk := k H locs cells slots (by omega) (by omega) hR hS
          rcases hty with rfl | rfl
          · exact va_alen (D := D) hx hb hK.1 hR.2.2.1 a 2 (hR.at ha he) rfl rfl hdg kk
          · exact va_alen (D := D) hx hb hK.1 hR.2.2.1 a 3 (hR.at ha he) rfl rfl hdg kk
        · cases h0
      · cases h0
    · cases h0
  · cases h0
set_option maxHeartbeats 8000000 in
set_option maxRecDepth 100000 in
theorem jv_h_new {ow : Nat} {ini : Bool} {h h' : jv_H} (X : jv_Cx p s m args meth c cc ow ini D dA G adV L xs h H locs) {idx : Nat} {len : Nat} {st st' : List Value} (hdg : decode cc pc = .ok (.new idx, len)) (hl : jv_sw (.new idx) = true ∨ len = jv_len (.new idx)) (h0 : jv_heap ow ini (.new idx) st h = some (st', h')) (hm : h'.2.1 ≤ 1000000) (hc : cells + (h'.2.1 - h.2.1) ≤ R.cells) (hs : slots + (h'.2.2 - h.2.2) ≤ R.slots)
    (k : ∀ (H' : Heap) (locs' : List Loc) (cells' slots' : Nat), cells' = cells + (h'.2.1 - h.2.1) → slots' = slots + (h'.2.2 - h.2.2) → jv_Rep D dA G L xs h' H' → va_S (fun q => G.1 ≤ q) s.heap H' locs' → W p l e R s m args below meth c H' locs' cells' slots' Q (F0 m (pc + len) ls (st'.map (jv_vl (jv_ad G))))) :
    W p l e R s m args below meth c H locs cells slots Q (F0 m pc ls (st.map (jv_vl (jv_ad G)))) := by
  obtain ⟨hx, hb, hown, hts, hK, hR, hS, hini⟩ := X
  unfold jv_heap at h0
  dsimp only at h0
  have e := jv_len1 hl rfl; subst e
  split at h0
  · rename_i cx hn
    cases h0
    have hck := jv_ckn_ok hn
    simp only [jv_ckn1, Bool.and_eq_true, decide_eq_true_eq] at hck
    obtain ⟨hcx, hw⟩ := hck
    have hKn := hK.1.1 cx _ (jv_cls_ok cx hcx)
    have hi := jv_inst_ok cx hcx
    have hsz := hR.1
    have hc1 : cells + 1 ≤ R.cells := by
      have : (h.2.1 + 1) - h.2.1 = 1 := by omega
      have h9 : cells + ((h.2.1 + 1) - h.2.1) ≤ R.cells := hc
      omega
    have hs1 : slots + jv_fn cx ≤ R.slots := by
      have h9 : slots + ((h.2.2 + jv_fn cx) - h.2.2) ≤ R.slots := hs
      omega
    refine W.newcK (n := jv_fn cx) hx hb hown (hts _ (jv_in_ok hw)) (hts _ (jv_in_ok hi.1)) (hts _ (jv_in_ok hi.2)) rfl hdg hc1 hs1 hKn.2.1 rfl fun H1 kC hkC e1 z1 o1 => ?_
    have hadr : jv_ad G h.2.1 = H.size := by rw [hsz]; exact jv_ad_lt (Nat.lt_of_lt_of_le (Nat.lt_succ_self _) hm)
    have kk := k H1 locs (cells + 1) (slots + jv_fn cx) (by show cells + 1 = cells + ((h.2.1 + 1) - h.2.1); omega) (by show slots + jv_fn cx = slots + ((h.2.2 + jv_fn cx) - h.2.2); omega) (hR.add hm z1 o1 ?_) (jv_grow hS z1 o1)
    · have kk2 : W p l e R s m args below meth c H1 locs (cells + 1) (slots + jv_fn cx) Q (F0 m (pc + 3) ls (.ref (jv_ad G h.2.1) :: st.map (jv_vl (jv_ad G)))) := kk
      rw [hadr] at kk2
      exact kk2
    · rw [← hsz]
      refine ⟨_, jv_cls_ok cx hcx, (u_born (jv_fty cx) hts (jv_ws_in cx hcx) hKn hkC e1 (jv_ty_ok cx hcx)).to ?_⟩
      intro j hj
      simp [vp_V, List.getD_eq_getElem?_getD, show j < jv_fn cx from hj, jv_vl_default]
  · cases h0
set_option maxHeartbeats 8000000 in
set_option maxRecDepth 100000 in
theorem jv_h_newarray {ow : Nat} {ini : Bool} {h h' : jv_H} (X : jv_Cx p s m args meth c cc ow ini D dA G adV L xs h H locs) {t : ArrayType} {len : Nat} {st st' : List Value} (hdg : decode cc pc = .ok (.newarray t, len)) (hl : jv_sw (.newarray t) = true ∨ len = jv_len (.newarray t)) (h0 : jv_heap ow ini (.newarray t) st h = some (st', h')) (hm : h'.2.1 ≤ 1000000) (hc : cells + (h'.2.1 - h.2.1) ≤ R.cells) (hs : slots + (h'.2.2 - h.2.2) ≤ R.slots)
    (k : ∀ (H' : Heap) (locs' : List Loc) (cells' slots' : Nat), cells' = cells + (h'.2.1 - h.2.1) → slots' = slots + (h'.2.2 - h.2.2) → jv_Rep D dA G L xs h' H' → va_S (fun q => G.1 ≤ q) s.heap H' locs' → W p l e R s m args below meth c H' locs' cells' slots' Q (F0 m (pc + len) ls (st'.map (jv_vl (jv_ad G))))) :
    W p l e R s m args below meth c H locs cells slots Q (F0 m pc ls (st.map (jv_vl (jv_ad G)))) := by
  obtain ⟨hx, hb, hown, hts, hK, hR, hS, hini⟩ := X
  unfold jv_heap at h0
  dsimp only at h0
  have e := jv_len1 hl rfl; subst e
  split at h0
  · rename_i n r
    split at h0
    · rename_i hn
      obtain ⟨hn0, hn1⟩ := hn
      have hsz := hR.1
      split at h0
      · cases h0
        have hc1 : cells + 1 ≤ R.cells := by
          have h9 : cells + ((h.2.1 + 1) - h.2.1) ≤ R.cells := hc
          omega
        have hs1 : slots + n.toNatClampNeg ≤ R.slots := by
          have h9 : slots + ((h.2.2 + n.toNatClampNeg) - h.2.2) ≤ R.slots := hs
          omega
        refine va_newaK hx hb (hts _ (jv_in_ok jv_arrI)) rfl hdg rfl hn0 rfl (by show n.toNatClampNeg * 4 ≤ 536870912; omega) hc1 hs1 rfl fun H1 cA e1 z1 o1 hAr hNm => ?_
        have hadr : jv_ad G h.2.1 = H.size := by rw [hsz]; exact jv_ad_lt (Nat.lt_of_lt_of_le (Nat.lt_succ_self _) hm)
        have hcA : cA = dA 0 := Option.some.inj (hNm.symm.trans (hK.1.2 0 _ rfl).2)
        subst hcA
        have kk := k H1 locs (cells + 1) (slots + n.toNatClampNeg) (by show cells + 1 = cells + ((h.2.1 + 1) - h.2.1); omega) (by show slots + n.toNatClampNeg = slots + ((h.2.2 + n.toNatClampNeg) - h.2.2); omega) (hR.add hm z1 o1 (by rw [← hsz]; exact e1)) (jv_grow hS z1 o1)
        have kk2 : W p l e R s m args below meth c H1 locs (cells + 1) (slots + n.toNatClampNeg) Q (F0 m (pc + 2) ls (.ref (jv_ad G h.2.1) :: r.map (jv_vl (jv_ad G)))) := kk
        rw [hadr] at kk2
        exact kk2
      · cases h0
        have hc1 : cells + 1 ≤ R.cells := by
          have h9 : cells + ((h.2.1 + 1) - h.2.1) ≤ R.cells := hc
          omega
        have hs1 : slots + n.toNatClampNeg ≤ R.slots := by
          have h9 : slots + ((h.2.2 + n.toNatClampNeg) - h.2.2) ≤ R.slots := hs
          omega
        refine va_newaK hx hb (hts _ (jv_in_ok jv_arrZ)) rfl hdg rfl hn0 rfl (by show n.toNatClampNeg * 1 ≤ 536870912; omega) hc1 hs1 rfl fun H1 cA e1 z1 o1 hAr hNm => ?_
        have hadr : jv_ad G h.2.1 = H.size := by rw [hsz]; exact jv_ad_lt (Nat.lt_of_lt_of_le (Nat.lt_succ_self _) hm)
        have hcA : cA = dA 1 := Option.some.inj (hNm.symm.trans (hK.1.2 1 _ rfl).2)
        subst hcA
        have kk := k H1 locs (cells + 1) (slots + n.toNatClampNeg) (by show cells + 1 = cells + ((h.2.1 + 1) - h.2.1); omega) (by show slots + n.toNatClampNeg = slots + ((h.2.2 + n.toNatClampNeg) - h.2.2); omega) (hR.add hm z1 o1 (by rw [← hsz]; exact e1)) (jv_grow hS z1 o1)
        have kk2 : W p l e R s m args below meth c H1 locs (cells + 1) (slots + n.toNatClampNeg) Q (F0 m (pc + 2) ls (.ref (jv_ad G h.2.1) :: r.map (jv_vl (jv_ad G)))) := kk
        rw [hadr] at kk2
        exact kk2
      · cases h0
    · cases h0
  · cases h0
set_option maxHeartbeats 8000000 in
set_option maxRecDepth 100000 in
theorem jv_h_anewarray {ow : Nat} {ini : Bool} {h h' : jv_H} (X : jv_Cx p s m args meth c cc ow ini D dA G adV L xs h H locs) {idx : Nat} {len : Nat} {st st' : List Value} (hdg : decode cc pc = .ok (.anewarray idx, len)) (hl : jv_sw (.anewarray idx) = true ∨ len = jv_len (.anewarray idx)) (h0 : jv_heap ow ini (.anewarray idx) st h = some (st', h')) (hm : h'.2.1 ≤ 1000000) (hc : cells + (h'.2.1 - h.2.1) ≤ R.cells) (hs : slots + (h'.2.2 - h.2.2) ≤ R.slots)
    (k : ∀ (H' : Heap) (locs' : List Loc) (cells' slots' : Nat), cells' = cells + (h'.2.1 - h.2.1) → slots' = slots + (h'.2.2 - h.2.2) → jv_Rep D dA G L xs h' H' → va_S (fun q => G.1 ≤ q) s.heap H' locs' → W p l e R s m args below meth c H' locs' cells' slots' Q (F0 m (pc + len) ls (st'.map (jv_vl (jv_ad G))))) :
    W p l e R s m args below meth c H locs cells slots Q (F0 m pc ls (st.map (jv_vl (jv_ad G)))) := by
  obtain ⟨hx, hb, hown, hts, hK, hR, hS, hini⟩ := X
  unfold jv_heap at h0
  dsimp only at h0
  have e := jv_len1 hl rfl; subst e
  split at h0
  · rename_i n r
    split at h0
    · rename_i hn
      obtain ⟨hn0, hn1⟩ := hn
      have hsz := hR.1
      split at h0
      · rename_i cx hnw
        have hck := jv_ckn_ok hnw
        simp only [jv_ckn1, Bool.and_eq_true, decide_eq_true_eq] at hck
        obtain ⟨hcx, hw⟩ := hck
        have key : ∀ (t0 : Nat) (C : String), jv_own cx = C → (jv_tys dA)[t0]? = some (dA t0, .object C) → (Cond.arrayOver (.object C)).before args s = true → some (.ref h.2.1 :: r, jv_add h (.inr (.inl (t0, n.toNatClampNeg, fun _ => none))) n.toNatClampNeg) = some (st', h') → W p l e R s m args below meth c H locs cells slots Q (F0 m pc ls (.int n :: r.map (jv_vl (jv_ad G)))) := by
          intro t0 C hC ht hover h0
          subst hC
          cases h0
          have hc1 : cells + 1 ≤ R.cells := by
            have h9 : cells + ((h.2.1 + 1) - h.2.1) ≤ R.cells := hc
            omega
          have hs1 : slots + n.toNatClampNeg ≤ R.slots := by
            have h9 : slots + ((h.2.2 + n.toNatClampNeg) - h.2.2) ≤ R.slots := hs
            omega
          refine W.anew hx hb hown (hts _ (jv_in_ok hw)) hover rfl hdg rfl hn0 (by omega) hc1 hs1 fun cA kA comp f1 f2 f3 f4 => ?_
          generalize hH1 : H.push ({ cls := cA, slots := Array.replicate n.toNatClampNeg .null, vm := .none } : Cell) = H1
          have z1 : H1.size = H.size + 1 := by rw [← hH1, Array.size_push]
          have e1 : H1[H.size]? = some (arrV cA n.toNatClampNeg (fun _ => .null)) := by rw [← hH1, Array.getElem?_push_size, ← arrV_new]
          have o1 : ∀ q : Nat, q < H.size → H1[q]? = H[q]? := fun q hq => by rw [← hH1, Array.getElem?_push, if_neg (Nat.ne_of_lt hq)]
          have hadr : jv_ad G h.2.1 = H.size := by rw [hsz]; exact jv_ad_lt (Nat.lt_of_lt_of_le (Nat.lt_succ_self _) hm)
          obtain ⟨kA2, comp2, g1, g2, g3, g4⟩ := (hK.1.2 t0 _ ht).2
          have hcA : cA = dA t0 := Option.some.inj (f1.symm.trans g4)
          subst hcA
          have kk := k H1 locs (cells + 1) (slots + n.toNatClampNeg) (by show cells + 1 = cells + ((h.2.1 + 1) - h.2.1); omega) (by show slots + n.toNatClampNeg = slots + ((h.2.2 + n.toNatClampNeg) - h.2.2); omega) (hR.add hm z1 o1 (by rw [← hsz]; exact e1)) (jv_grow hS z1 o1)
          have kk2 : W p l e R s m args below meth c H1 locs (cells + 1) (slots + n.toNatClampNeg) Q (F0 m (pc + 3) ls (.ref (jv_ad G h.2.1) :: r.map (jv_vl (jv_ad G)))) := kk
          rw [hadr] at kk2
          exact kk2
        split at h0
        · rename_i h6
          subst h6
          exact key 2 _ rfl rfl (va_AO.use hK.2.2.2.2.2.2.1) h0
        · split at h0
          · rename_i h5
            subst h5
            exact key 3 _ rfl rfl (va_AO.use hK.2.2.2.2.2.2.2.1) h0
          · cases h0
      · cases h0
    · cases h0
  · cases h0
set_option maxHeartbeats 8000000 in
set_option maxRecDepth 100000 in
theorem jv_h_ldc {ow : Nat} {ini : Bool} {h h' : jv_H} (X : jv_Cx p s m args meth c cc ow ini D dA G adV L xs h H locs) {idx : Nat} {len : Nat} {st st' : List Value} (hdg : decode cc pc = .ok (.ldc idx, len)) (hl : jv_sw (.ldc idx) = true ∨ len = jv_len (.ldc idx)) (h0 : jv_heap ow ini (.ldc idx) st h = some (st', h')) (hm : h'.2.1 ≤ 1000000) (hc : cells + (h'.2.1 - h.2.1) ≤ R.cells) (hs : slots + (h'.2.2 - h.2.2) ≤ R.slots)
    (k : ∀ (H' : Heap) (locs' : List Loc) (cells' slots' : Nat), cells' = cells + (h'.2.1 - h.2.1) → slots' = slots + (h'.2.2 - h.2.2) → jv_Rep D dA G L xs h' H' → va_S (fun q => G.1 ≤ q) s.heap H' locs' → W p l e R s m args below meth c H' locs' cells' slots' Q (F0 m (pc + len) ls (st'.map (jv_vl (jv_ad G))))) :
    W p l e R s m args below meth c H locs cells slots Q (F0 m pc ls (st.map (jv_vl (jv_ad G)))) := by
  obtain ⟨hx, hb, hown, hts, hK, hR, hS, hini⟩ := X
  unfold jv_heap at h0
  dsimp only at h0
  have e := jv_len1 hl rfl; subst e
  split at h0
  · rename_i v hv
    cases h0
    have kk := k H locs cells slots (by omega) (by omega) hR hS
    have hck := jv_ckl_ok hv
    cases v with
    | int x => exact W.ldc hx hb hown (hts _ (jv_in_ok hck)) rfl hdg kk
    | ref a =>
      unfold jv_ckl1 at hck
      dsimp only at hck
      cases htx : jv_tix a with
      | none => rw [htx] at hck; cases hck
      | some ix =>
        rw [htx] at hck
        dsimp only at hck
        obtain ⟨hi20, rfl⟩ := jv_tix_eq htx
        cases hst : jv_str[ix]? with
        | none => rw [hst] at hck; cases hck
        | some q =>
          obtain ⟨own, idx2, tx⟩ := q
          rw [hst] at hck
          dsimp only at hck
          obtain ⟨h4, h5⟩ := of_decide_eq_true hck
          subst h4
          subst h5
          have hvk := hK.2.2.2.2.2.1 _ _ hst
          have kk2 : W p l e R s m args below meth c H locs cells slots Q (F0 m (pc + 2) ls (.ref (jv_ad G (1000001 + ix)) :: st.map (jv_vl (jv_ad G)))) := kk
          rw [jv_ad_txt] at kk2
          exact va_ldcS hx hb hown hvk hdg kk2
    | long x => cases hck
    | float x => cases hck
    | double x => cases hck
    | null => cases hck
    | retAddr x => cases hck
  · cases h0
set_option maxHeartbeats 8000000 in
theorem jv_heap_ok (hx : p.tables.exec = Jvm.exec) (hb : c.code = cc) {ow : Nat} {ini : Bool} (hown : s.vm.findClass (jv_own ow) = some m.cls) (hts : ∀ w ∈ jv_T, w.before args s = true) (hK : jv_Kn D dA G adV L xs s) {h h' : jv_H} (hR : jv_Rep D dA G L xs h H) (hS : va_S (fun q => G.1 ≤ q) s.heap H locs) (hini : ini = true → meth.name = "<init>")
    {i : Instr} {len : Nat} {st st' : List Value} (hdg : decode cc pc = .ok (i, len)) (hl : jv_sw i = true ∨ len = jv_len i) (h0 : jv_heap ow ini i st h = some (st', h')) (hm : h'.2.1 ≤ 1000000) (hc : cells + (h'.2.1 - h.2.1) ≤ R.cells) (hs : slots + (h'.2.2 - h.2.2) ≤ R.slots)
    (k : ∀ (H' : Heap) (locs' : List Loc) (cells' slots' : Nat), cells' = cells + (h'.2.1 - h.2.1) → slots' = slots + (h'.2.2 - h.2.2) → jv_Rep D dA G L xs h' H' → va_S (fun q => G.1 ≤ q) s.heap H' locs' → W p l e R s m args below meth c H' locs' cells' slots' Q (F0 m (pc + len) ls (st'.map (jv_vl (jv_ad G))))) :
    W p l e R s m args below meth c H locs cells slots Q (F0 m pc ls (st.map (jv_vl (jv_ad G)))) := by
  have X : jv_Cx p s m args meth c cc ow ini D dA G adV L xs h H locs := ⟨hx, hb, hown, hts, hK, hR, hS, hini⟩
  have h00 := h0
  unfold jv_heap at h0
  split at h0
  · exact jv_h_getfield X hdg hl h00 hm hc hs k
  · exact jv_h_putfield X hdg hl h00 hm hc hs k
  · exact jv_h_iaload X hdg hl h00 hm hc hs k
  · exact jv_h_baload X hdg hl h00 hm hc hs k
  · exact jv_h_aaload X hdg hl h00 hm hc hs k
  · exact jv_h_iastore X hdg hl h00 hm hc hs k
  · exact jv_h_bastore X hdg hl h00 hm hc hs k
  · exact jv_h_aastore X hdg hl h00 hm hc hs k
  · exact jv_h_arraylength X hdg hl h00 hm hc hs k
  · exact jv_h_new X hdg hl h00 hm hc hs k
  · exact jv_h_newarray X hdg hl h00 hm hc hs k
  · exact jv_h_anewarray X hdg hl h00 hm hc hs k
  · exact jv_h_ldc X hdg hl h00 hm hc hs k
  · cases h0
end JHQ
end
section
/-! THE J MACHINE IS RIGHT: methods, calls, by induction on the fuel -/
theorem jv_heap_mono {ow : Nat} {ini : Bool} {i : Instr} {st st' : List Value} {h h' : jv_H} (h0 : jv_heap ow ini i st h = some (st', h')) : h.2.1 ≤ h'.2.1 ∧ h.2.2 ≤ h'.2.2 := by
  unfold jv_heap at h0
  split at h0
  case h_2 =>
    obtain ⟨v, a, cx, kf, fs, rfl, hf, ha, he, hkl, hn, hfi, hfin, rfl⟩ := jv_set_eq h0
    exact ⟨Nat.le_refl _, Nat.le_refl _⟩
  all_goals (repeat' split at h0)
  all_goals first
    | (cases h0; done)
    | (cases h0; exact ⟨Nat.le_refl _, Nat.le_refl _⟩)
    | (cases h0; exact ⟨Nat.le_succ _, Nat.le_add_right _ _⟩)
theorem jv_step_mono {ow : Nat} {ini : Bool} {i : Instr} {len pc pc' : Nat} {L L' : List (Option Value)} {st st' : List Value} {h h' : jv_H} (h0 : jv_step ow ini i len pc L st h = some (pc', L', st', h')) : h.2.1 ≤ h'.2.1 ∧ h.2.2 ≤ h'.2.2 := by
  unfold jv_step at h0
  split at h0
  · cases h0; exact ⟨Nat.le_refl _, Nat.le_refl _⟩
  · split at h0
    · cases h0; exact ⟨Nat.le_refl _, Nat.le_refl _⟩
    · split at h0
      · cases h0; exact ⟨Nat.le_refl _, Nat.le_refl _⟩
      · split at h0
        · cases h0; exact ⟨Nat.le_refl _, Nat.le_refl _⟩
        · split at h0
          · rename_i hh
            cases h0; exact jv_heap_mono hh
          · cases h0
/-- the J machine's one step, what it can be -/
theorem jv_run_inv {n y pc : Nat} {L : List (Option Value)} {st : List Value} {h h' : jv_H} {r : Option Value} (h0 : jv_run (n + 1) y pc L st h = some (r, h')) :
    ∃ (ow kd na mL fr lo : Nat) (i : Instr) (len : Nat), jv_inf y = some (ow, kd, na, mL, fr, lo) ∧ jv_code y pc = some (i, len) ∧
      ((jv_ret (jv_ym y).2.2 i st = some r ∧ h' = h) ∨
       (∃ (pc' : Nat) (L' : List (Option Value)) (st' : List Value) (h1 : jv_H), jv_step ow (decide (kd = 2)) i len pc L st h = some (pc', L', st', h1) ∧ jv_run n y pc' L' st' h1 = some (r, h')) ∨
       (∃ (ck idx z na' ne : Nat), jv_isC i = some (ck, idx) ∧ jv_cal ow idx = some (z, na', ne) ∧
         ((z = 900 ∧ ∃ (a : Nat) (rst : List Value), st = .ref a :: rst ∧ ck = 2 ∧ 1 ≤ fr ∧ jv_wd rst + 12 ≤ lo ∧ jv_run n y (pc + 3) L rst h = some (r, h')) ∨
          (z = 901 ∧ ∃ st' : List Value, jv_strlen st = some st' ∧ ck = 1 ∧ 2 ≤ fr ∧ 40 ≤ lo ∧ jv_wd (st.drop 1) ≤ 8 ∧ jv_run n y (pc + 3) L st' h = some (r, h')) ∨
          (z = 902 ∧ ∃ st' : List Value, jv_strat st = some st' ∧ ck = 1 ∧ 6 ≤ fr ∧ 120 ≤ lo ∧ jv_wd (st.drop 2) ≤ 8 ∧ jv_run n y (pc + 3) L st' h = some (r, h')) ∨
          (z ≠ 900 ∧ z ≠ 901 ∧ z ≠ 902 ∧ ∃ (q : Nat × Nat × Nat × Nat × Nat × Nat) (r1 : Option Value) (h1 : jv_H), jv_inf z = some q ∧ jv_may ck fr lo q na' st h = true ∧
            jv_run n z 0 ((st.take na').reverse.map some ++ List.replicate (q.2.2.2.1 - na') none) [] h = some (r1, h1) ∧ jv_run n y (pc + 3) L (r1.toList ++ st.drop na') h1 = some (r, h'))))) := by
  unfold jv_run at h0
  split at h0
  · cases h0
  · rename_i ow kd na mL fr lo hinf
    split at h0
    · cases h0
    · rename_i i len hcode
      refine ⟨ow, kd, na, mL, fr, lo, i, len, hinf, hcode, ?_⟩
      split at h0
      · rename_i r0 hr
        cases h0
        exact Or.inl ⟨hr, rfl⟩
      · split at h0
        · split at h0
          · rename_i hs
            exact Or.inr (Or.inl ⟨_, _, _, _, hs, h0⟩)
          · cases h0
        · rename_i ck idx hc
          split at h0
          · cases h0
          · rename_i z na' ne hcal
            refine Or.inr (Or.inr ⟨ck, idx, z, na', ne, hc, hcal, ?_⟩)
            split at h0
            · rename_i hz
              split at h0
              · split at h0
                · rename_i hq
                  exact Or.inl ⟨hz, _, _, rfl, hq.1, hq.2.1, hq.2.2, h0⟩
                · cases h0
              · cases h0
            · rename_i hz0
              split at h0
              · rename_i hz
                split at h0
                · rename_i st' hst
                  split at h0
                  · rename_i hq
                    exact Or.inr (Or.inl ⟨hz, st', hst, hq.1, hq.2.1, hq.2.2.1, hq.2.2.2, h0⟩)
                  · cases h0
                · cases h0
              · rename_i hz1
                split at h0
                · rename_i hz
                  split at h0
                  · rename_i st' hst
                    split at h0
                    · rename_i hq
                      exact Or.inr (Or.inr (Or.inl ⟨hz, st', hst, hq.1, hq.2.1, hq.2.2.1, hq.2.2.2, h0⟩))
                    · cases h0
                  · cases h0
                · rename_i hz2
                  split at h0
                  · cases h0
                  · rename_i q hq
                    split at h0
                    · rename_i hmay
                      split at h0
                      · rename_i r1 h1 hrun
                        exact Or.inr (Or.inr (Or.inr ⟨hz0, hz1, hz2, q, r1, h1, hq, hmay, hrun, h0⟩))
                      · cases h0
                    · cases h0
theorem jv_run_mono : ∀ (n : Nat) {y pc : Nat} {L : List (Option Value)} {st : List Value} {h h' : jv_H} {r : Option Value}, jv_run n y pc L st h = some (r, h') → h.2.1 ≤ h'.2.1 ∧ h.2.2 ≤ h'.2.2
  | 0, _, _, _, _, _, _, _, h0 => by cases h0
  | n + 1, y, pc, L, st, h, h', r, h0 => by
    obtain ⟨ow, kd, na, mL, fr, lo, i, len, -, -, ⟨-, rfl⟩ | ⟨pc', L', st', h1, hs, hr⟩ | ⟨ck, idx, z, na', ne, -, -, hz⟩⟩ := jv_run_inv h0
    · exact ⟨Nat.le_refl _, Nat.le_refl _⟩
    · have a := jv_step_mono hs
      have b := jv_run_mono n hr
      omega
    · rcases hz with ⟨-, a, rst, -, -, -, -, hr⟩ | ⟨-, st', -, -, -, -, -, hr⟩ | ⟨-, st', -, -, -, -, -, hr⟩ | ⟨-, -, -, q, r1, h1, -, -, hr1, hr⟩
      · exact jv_run_mono n hr
      · exact jv_run_mono n hr
      · exact jv_run_mono n hr
      · have a := jv_run_mono n hr1
        have b := jv_run_mono n hr
        omega
def jv_Pc (D : va_G) (dA : Nat → ClassId) (G : jv_G) (adV : Nat → Nat) (L : Nat) (xs : Nat → Int32) (a : List Value) (h : jv_H) : Array Value → State → Prop := fun v U => v = (a.map (jv_vl (jv_ad G))).toArray ∧ jv_Rep D dA G L xs h U.heap ∧ jv_Kn D dA G adV L xs U
def jv_Qc (D : va_G) (dA : Nat → ClassId) (G : jv_G) (L : Nat) (xs : Nat → Int32) (r : Option Value) (h' : jv_H) : Array Value → State → Outcome → State → Prop := fun _ st o t => o = .returned (r.map (jv_vl (jv_ad G))) ∧ jv_Rep D dA G L xs h' t.heap ∧ va_F (fun q => G.1 ≤ q) st t
theorem jv_nests_warm {s U : State} (hW : s.WarmedH U.vm) : ∀ w ∈ jv_nests, va_Nw w s → va_Nw w U := by
  intro w hw h
  simp only [jv_nests, List.mem_cons, List.not_mem_nil, or_false] at hw
  rcases hw with rfl | rfl | rfl | rfl | rfl <;> exact va_Nw.warmM hW h
theorem jv_nests_same {u U : State} (hv : u.vm = U.vm) : ∀ w ∈ jv_nests, va_Nw w u → va_Nw w U := by
  intro w hw h
  simp only [jv_nests, List.mem_cons, List.not_mem_nil, or_false] at hw
  rcases hw with rfl | rfl | rfl | rfl | rfl <;> exact va_Nw.same rfl hv h
theorem jv_Kn.same {D : va_G} {dA : Nat → ClassId} {G : jv_G} {adV : Nat → Nat} {L : Nat} {xs : Nat → Int32} {u U : State} (hv : U.vm = u.vm) (hh : U.heap = u.heap) (h : jv_Kn D dA G adV L xs u) : jv_Kn D dA G adV L xs U := by
  obtain ⟨h1, h2, h3, h4, h5, h6, k1, k2, k3, k4, v, hv0, k5⟩ := h
  have ha : u.vm.Alike U.vm := by rw [hv]; exact Vm.Alike.refl u.vm
  refine ⟨va_K.moved ha h1, ?_, h3, by rw [hh]; exact h4, ?_, fun i q hq => vk_R.same hv (h6 i q hq), k1.moved ha, k2.moved ha, fun w hw => jv_nests_same hv.symm w hw (k3 w hw), ?_, v, hv0, ?_⟩
  · rw [hh]; exact va_X.moved ha h2
  · rw [hh]; exact vk_S.moved ha h5
  · rw [hh]; exact va_Z.moved ha k4
  · rw [hh]; exact va_Z.moved ha k5
theorem jv_Kn.next {D : va_G} {dA : Nat → ClassId} {G : jv_G} {adV : Nat → Nat} {L : Nat} {xs : Nat → Int32} {s U : State} {locs : List Loc} (h : jv_Kn D dA G adV L xs s) (hS : va_S (fun q => G.1 ≤ q) s.heap U.heap locs) (hW : s.WarmedH U.vm) : jv_Kn D dA G adV L xs U := by
  obtain ⟨h1, h2, h3, h4, h5, h6, k1, k2, k3, k4, v, hv0, k5⟩ := h
  exact ⟨va_K.moved hW.alike h1, (h2.kept (hS.2.1 G.2.1 (Nat.lt_of_lt_of_le h3 h4) (Nat.not_le.mpr h3))).moved hW.alike, h3, Nat.le_trans h4 hS.1, (h5.kept hS.2.1).moved hW.alike, fun i q hq => vk_R.warm hW (h6 i q hq), k1.moved hW.alike, k2.moved hW.alike, fun w hw => jv_nests_warm hW w hw (k3 w hw), (k4.kept hS.2.1).moved hW.alike, v, hv0, (k5.kept hS.2.1).moved hW.alike⟩
theorem jv_blind {D : va_G} {dA : Nat → ClassId} {G : jv_G} {adV : Nat → Nat} {L : Nat} {xs : Nat → Int32} {a : List Value} {h : jv_H} : FrameBlind (jv_Pc D dA G adV L xs a h) := by
  intro v U g mk hp
  exact ⟨hp.1, hp.2.1, jv_Kn.same (u := U) (U := U.calling g mk v) rfl rfl hp.2.2⟩
theorem jv_wd_map (ad : Nat → Nat) (st : List Value) : ((st.map (jv_vl ad)).map fun v => v.category).sum = jv_wd st := by
  unfold jv_wd
  rw [List.map_map]
  congr 1
  apply List.map_congr_left
  intro v _
  exact jv_vl_cat ad v
theorem jv_wd_one : ∀ (u : List Value), jv_wd u = u.length → ∀ v ∈ u, v.category = 1
  | [], _, v, hv => by cases hv
  | w :: u, h, v, hv => by
    have hge : ∀ u : List Value, u.length ≤ jv_wd u := by
      intro u
      induction u with
      | nil => exact Nat.le_refl _
      | cons x t ih =>
        have h2 : jv_wd (x :: t) = x.category + jv_wd t := by simp [jv_wd]
        rcases lv_cat x with h3 | h3 <;> simp only [List.length_cons] <;> omega
    have h1 : jv_wd (w :: u) = w.category + jv_wd u := by simp [jv_wd]
    have h2 := hge u
    simp only [List.length_cons] at h
    rcases lv_cat w with h3 | h3
    · rcases List.mem_cons.mp hv with rfl | hv
      · exact h3
      · exact jv_wd_one u (by omega) v hv
    · omega
theorem jv_sl : ∀ (vs : List Value), (∀ v ∈ vs, v.category = 1) → lg_sl vs = vs.map Slot.val
  | [], _ => rfl
  | v :: vs, h => by
    have h1 : ¬ v.category = 2 := by rw [h v List.mem_cons_self]; decide
    have h2 := jv_sl vs (fun w hw => h w (List.mem_cons_of_mem _ hw))
    unfold lg_sl at h2 ⊢
    rw [List.flatMap_cons, h2, if_neg h1]
    rfl
theorem jv_args_mem : ∀ (vs : List Value) (k i : Nat) (v : Value), (∀ w ∈ vs, w.category = 1) → vs[i]? = some v → (k + i, v) ∈ lv_args k vs
  | [], k, i, v, _, h => by simp at h
  | w :: vs, k, i, v, hc, h => by
    have h1 : ¬ w.category = 2 := by rw [hc w List.mem_cons_self]; decide
    unfold lv_args
    rw [if_neg h1]
    cases i with
    | zero =>
      rw [List.getElem?_cons_zero] at h
      cases h
      exact List.mem_cons_self
    | succ i =>
      rw [List.getElem?_cons_succ] at h
      have h2 := jv_args_mem vs (k + 1) i v (fun x hx => hc x (List.mem_cons_of_mem _ hx)) h
      rw [show k + (i + 1) = k + 1 + i by omega]
      exact List.mem_cons_of_mem _ h2
/-- a method's first locals -/
theorem jv_entry (ad : Nat → Nat) (a : List Value) (mL : Nat) (hc : ∀ v ∈ a, v.category = 1) (hn : a.length ≤ mL) : jv_Lc ad ((lg_sl (a.map (jv_vl ad)) ++ List.replicate (mL - (lg_sl (a.map (jv_vl ad))).length) Slot.unset).toArray) mL (a.map some ++ List.replicate (mL - a.length) none) := by
  have hc2 : ∀ v ∈ a.map (jv_vl ad), v.category = 1 := by
    intro v hv
    obtain ⟨w, hw, rfl⟩ := List.mem_map.mp hv
    rw [jv_vl_cat]
    exact hc w hw
  have hsl := jv_sl _ hc2
  have hlen : (lg_sl (a.map (jv_vl ad))).length = a.length := by rw [hsl]; simp
  have hE := lv_entry (a.map (jv_vl ad)) (n := mL) (by omega)
  refine ⟨hE.1, by simp; omega, hE.2.1, fun i v hv => ?_⟩
  have hi : a[i]? = some v := by
    by_cases hlt : i < a.length
    · rw [List.getElem?_append_left (by simpa using hlt), List.getElem?_map] at hv
      cases ha : a[i]? with
      | none => rw [ha] at hv; cases hv
      | some w => rw [ha] at hv; cases hv; rfl
    · rw [List.getElem?_append_right (by simp; omega)] at hv
      have h3 := List.mem_of_getElem? hv
      have h4 := List.eq_of_mem_replicate h3
      cases h4
  have h5 := jv_args_mem (a.map (jv_vl ad)) 0 i (jv_vl ad v) hc2 (by rw [List.getElem?_map, hi]; rfl)
  rw [Nat.zero_add] at h5
  exact hE.2.2 (i, jv_vl ad v) h5
end
section
/-! THE J MACHINE IS RIGHT: the induction -/
section JSM
variable {p : Program} {l : Launch} {e : Env} {R : Room} {s : State} {m : MethodId} {args : Array Value} {below : List Frame} {meth : Method} {c : Code} {H : Heap} {locs : List Loc} {cells slots : Nat} {Q : State → Prop}
variable {cc : ByteArray} {pc nL : Nat} {ls : Array Slot} {D : va_G} {dA : Nat → ClassId} {G : jv_G} {adV : Nat → Nat} {L : Nat} {xs : Nat → Int32}
theorem jv_back {mc ms : Nat} {r : Option Value} {h' : jv_H} {st0 rest : List Value} {a : Array Value} (hr : va_Run p l e R s m args below meth c H locs cells slots mc ms (F0 m pc ls st0) rest (jv_Qc D dA G L xs r h' a) (fun q => G.1 ≤ q)) (hS : va_S (fun q => G.1 ≤ q) s.heap H locs)
    (kk : ∀ (H1 : Heap) (locs1 : List Loc), jv_Rep D dA G L xs h' H1 → va_S (fun q => G.1 ≤ q) s.heap H1 locs1 → W p l e R s m args below meth c H1 locs1 (cells + mc) (slots + ms) Q (F0 m (pc + 3) ls ((r.map (jv_vl (jv_ad G))).toList ++ rest))) : W p l e R s m args below meth c H locs cells slots Q (F0 m pc ls st0) := by
  intro T hT X
  obtain ⟨v, st₀, t, T', L1, h0, X', hL, e1, e2, ⟨hv, hRep, hz, hk⟩, st⟩ := hr T hT X
  cases hv
  rw [h0] at hz hk
  obtain ⟨t2, a1, b1⟩ := kk T'.heap (locs ++ L1) (by rw [e1]; exact hRep) ⟨Nat.le_trans hS.1 (by rw [e1]; exact hz), fun q h1 h2 => by rw [e1, hk q (Nat.lt_of_lt_of_le h1 hS.1) h2]; exact hS.2.1 q h1 h2, fun q hq => by
      rcases List.mem_append.mp hq with h | h
      · exact hS.2.2 q h
      · exact hL q h⟩ T' rfl X'
  exact ⟨t2, st t2 a1, b1⟩
set_option maxHeartbeats 4000000 in
theorem jv_step_ok (hx : p.tables.exec = Jvm.exec) (hb : c.code = cc) {ow : Nat} {ini : Bool} (hown : s.vm.findClass (jv_own ow) = some m.cls) (hts : ∀ w ∈ jv_T, w.before args s = true) (hK : jv_Kn D dA G adV L xs s) {h h' : jv_H} (hR : jv_Rep D dA G L xs h H) (hS : va_S (fun q => G.1 ≤ q) s.heap H locs) (hini : ini = true → meth.name = "<init>")
    {i : Instr} {len pc' : Nat} {Lv Lv' : List (Option Value)} {st st' : List Value} (hL : jv_Lc (jv_ad G) ls nL Lv) (hdg : decode cc pc = .ok (i, len)) (hl : jv_sw i = true ∨ len = jv_len i) (h0 : jv_step ow ini i len pc Lv st h = some (pc', Lv', st', h')) (hm : h'.2.1 ≤ 1000000) (hc : cells + (h'.2.1 - h.2.1) ≤ R.cells) (hs : slots + (h'.2.2 - h.2.2) ≤ R.slots)
    (k : ∀ (H' : Heap) (locs' : List Loc) (ls' : Array Slot) (cells' slots' : Nat), cells' = cells + (h'.2.1 - h.2.1) → slots' = slots + (h'.2.2 - h.2.2) → jv_Rep D dA G L xs h' H' → va_S (fun q => G.1 ≤ q) s.heap H' locs' → jv_Lc (jv_ad G) ls' nL Lv' → W p l e R s m args below meth c H' locs' cells' slots' Q (F0 m pc' ls' (st'.map (jv_vl (jv_ad G))))) :
    W p l e R s m args below meth c H locs cells slots Q (F0 m pc ls (st.map (jv_vl (jv_ad G)))) := by
  unfold jv_step at h0
  split at h0
  · rename_i h1
    cases h0
    exact jv_pure_ok hx hb hdg hl h1 (k H locs ls cells slots (by omega) (by omega) hR hS hL)
  · split at h0
    · rename_i h1
      cases h0
      exact jv_ld_ok hx hb hdg hl hL h1 (k H locs ls cells slots (by omega) (by omega) hR hS hL)
    · split at h0
      · rename_i h1
        cases h0
        exact jv_br_ok hx hb hdg hl h1 (k H locs ls cells slots (by omega) (by omega) hR hS hL)
      · split at h0
        · rename_i h1
          cases h0
          exact jv_sto_ok hx hb hdg hl hL h1 (fun ls' hL' => k H locs ls' cells slots (by omega) (by omega) hR hS hL')
        · split at h0
          · rename_i h1
            cases h0
            exact jv_heap_ok hx hb hown hts hK hR hS hini hdg hl h1 hm hc hs (fun H' locs' cells' slots' e1 e2 hR' hS' => k H' locs' ls cells' slots' e1 e2 hR' hS' hL)
          · cases h0
theorem jv_isC_eq {i : Instr} {ck idx : Nat} (h : jv_isC i = some (ck, idx)) : (ck = 0 ∧ i = .invokestatic idx) ∨ (ck = 1 ∧ i = .invokevirtual idx) ∨ (ck = 2 ∧ i = .invokespecial idx) := by
  unfold jv_isC at h
  split at h
  · cases h; exact Or.inl ⟨rfl, rfl⟩
  · cases h; exact Or.inr (Or.inl ⟨rfl, rfl⟩)
  · cases h; exact Or.inr (Or.inr ⟨rfl, rfl⟩)
  · cases h
/-- what the tables say of method z -/
theorem jv_ckm_eq {z ow kd na mL fr lo : Nat} (hz : z < 271) (hq : jv_inf z = some (ow, kd, na, mL, fr, lo)) :
    Cond.code (jv_ym z).1 (jv_ym z).2.1 mL (jv_ym z).2.2 ∈ jv_T ∧ Cond.initialized (jv_ym z).1.cls ∈ jv_T ∧ plainFor (jv_ym z).1 = true ∧ (jv_ym z).1.cls = jv_own ow ∧
    ((jv_ym z).1.cls ≠ "java/lang/invoke/MethodHandle" ∧ (jv_ym z).1.cls ≠ "java/lang/invoke/VarHandle" ∧ (parseMethodDescriptor (jv_ym z).1.desc).map (fun d => d.parameters.length) = some (if kd = 0 then na else na - 1)) ∧ na ≤ mL ∧ (kd ≠ 0 → 1 ≤ na) ∧
    (kd = 0 → Cond.static (jv_ym z).1 ∈ jv_T) ∧ (kd = 1 → Cond.instanceMethod (jv_ym z).1 ∈ jv_T ∧ Cond.selects (jv_ym z).1.cls (jv_ym z).1 (jv_ym z).1 ∈ jv_T) ∧ (kd ≠ 0 → kd ≠ 1 → kd = 2 ∧ Cond.instanceMethod (jv_ym z).1 ∈ jv_T ∧ (jv_ym z).1.name = "<init>" ∧ (jv_ym z).2.2 = none) := by
  have h := jv_ckm_ok z hz
  unfold jv_ckm at h
  rw [hq] at h
  split at h
  · rename_i ow1 kd1 na1 mL1 fr1 lo1 a b c1 d he hhm
    cases he
    simp only [Bool.and_eq_true, decide_eq_true_eq] at h
    obtain ⟨⟨⟨⟨h1, h2⟩, h3⟩, h4, h5, h6, h7⟩, h8⟩ := h
    refine ⟨jv_in_ok h1, jv_in_ok h2, h3, h4, h5, h6, h7, fun hk => ?_, fun hk => ?_, fun hk0 hk1 => ?_⟩
    · subst hk
      exact jv_in_ok h8
    · subst hk
      simp only [Bool.and_eq_true] at h8
      exact ⟨jv_in_ok h8.1, jv_in_ok h8.2⟩
    · split at h8
      · exact absurd rfl hk0
      · exact absurd rfl hk1
      · simp only [Bool.and_eq_true, decide_eq_true_eq] at h8
        exact ⟨h8.2.2.2, jv_in_ok h8.1, h8.2.1, h8.2.2.1⟩
  · cases h
theorem jv_good {w : Cond} (hw : w ∈ jv_T) : GoodIn jv_T (w :: jv_T) := by
  have key : ∀ v ∈ jv_T, v ∈ jv_T ∧ ((v.onTables && v.keeps) = true ∨ ∃ ty, v = .arrayClass ty) := fun v hv => ⟨hv, good_of_word (List.mem_filter.mp hv).2⟩
  intro v hv
  rcases List.mem_cons.mp hv with rfl | hv
  · exact key _ hw
  · exact key _ hv
set_option maxHeartbeats 8000000 in
theorem jv_call_ok {ow fr lo : Nat} (S : CallFix p m c cc nL s args jv_T (jv_own ow)) (hK : jv_Kn D dA G adV L xs s) {h h1 : jv_H} (hR : jv_Rep D dA G L xs h H) (hS : va_S (fun q => G.1 ≤ q) s.heap H locs) {z ow2 kd2 na2 mL2 fr2 lo2 na ne ck idx len : Nat} {i : Instr} {st : List Value} {r1 : Option Value}
    (hq : jv_inf z = some (ow2, kd2, na2, mL2, fr2, lo2)) (hcal : jv_cal ow idx = some (z, na, ne)) (hz0 : z ≠ 900) (hz1 : z ≠ 901) (hz2 : z ≠ 902) (hdg : decode cc pc = .ok (i, len)) (hci : jv_isC i = some (ck, idx)) (hl : jv_sw i = true ∨ len = jv_len i) (hmay : jv_may ck fr lo (ow2, kd2, na2, mL2, fr2, lo2) na st h = true) (hfr : fr ≤ R.frames) (hlo : lo ≤ R.locals) (hsz : ls.size = nL) {mc ms : Nat}
    (hM : Met l (jv_ym z).1 (Cond.code (jv_ym z).1 (jv_ym z).2.1 mL2 (jv_ym z).2.2 :: jv_T) ({ frames := fr2, cells := mc, slots := ms, locals := lo2 } : Room) (jv_Pc D dA G adV L xs (st.take na).reverse h) (jv_Qc D dA G L xs r1 h1) mc ms (fun q => G.1 ≤ q)) (hf : cells + mc ≤ R.cells ∧ slots + ms ≤ R.slots)
    (kk : ∀ (H1 : Heap) (locs1 : List Loc), jv_Rep D dA G L xs h1 H1 → va_S (fun q => G.1 ≤ q) s.heap H1 locs1 → W p l e R s m args below meth c H1 locs1 (cells + mc) (slots + ms) Q (F0 m (pc + 3) ls ((r1.toList ++ st.drop na).map (jv_vl (jv_ad G))))) :
    W p l e R s m args below meth c H locs cells slots Q (F0 m pc ls (st.map (jv_vl (jv_ad G)))) := by
  have hckc := jv_ckc_ok hcal
  unfold jv_ckc1 at hckc
  rw [if_neg hz0, if_neg hz1, if_neg hz2, hq] at hckc
  simp only [Bool.and_eq_true, decide_eq_true_eq] at hckc
  obtain ⟨⟨hna, hz⟩, hlink⟩ := hckc
  subst hna
  obtain ⟨w1, w2, -, w4, w5, w6, w7, w8, w9, w10⟩ := jv_ckm_eq hz hq
  have hts := S.2.2.2.2
  unfold jv_may at hmay
  simp only [Bool.and_eq_true, decide_eq_true_eq] at hmay
  obtain ⟨⟨hk, hn1, hn2, hn3, hf1, hf2, hw1, hw2⟩, hrec⟩ := hmay
  subst hk
  have hRm : fr2 + 1 ≤ R.frames ∧ 8 + (mL2 + 11) + lo2 ≤ R.locals := ⟨by omega, by omega⟩
  have hst : st.map (jv_vl (jv_ad G)) = (st.take na2).map (jv_vl (jv_ad G)) ++ (st.drop na2).map (jv_vl (jv_ad G)) := by rw [← List.map_append, List.take_append_drop]
  have hu : (st.take na2).length = na2 := by rw [List.length_take]; omega
  have hWd : ∀ g : JFrame, g.monitorRoom = 0 → 2 * g.monitorRoom + (((st.drop na2).map (jv_vl (jv_ad G))).map fun v => v.category).sum ≤ 8 := by
    intro g hg
    rw [hg, jv_wd_map]
    omega
  have hpre : ∀ U : State, U.heap = H → s.WarmedH U.vm → ∀ v : Array Value, v = ((st.take na2).reverse.map (jv_vl (jv_ad G))).toArray → jv_Pc D dA G adV L xs (st.take na2).reverse h v U := by
    intro U hU hW v hv
    refine ⟨hv, by rw [hU]; exact hR, hK.next (by rw [hU]; exact hS) hW⟩
  have kk2 : ∀ (H1 : Heap) (locs1 : List Loc), jv_Rep D dA G L xs h1 H1 → va_S (fun q => G.1 ≤ q) s.heap H1 locs1 → W p l e R s m args below meth c H1 locs1 (cells + mc) (slots + ms) Q (F0 m (pc + 3) ls ((r1.map (jv_vl (jv_ad G))).toList ++ (st.drop na2).map (jv_vl (jv_ad G)))) := by
    intro H1 locs1 a1 a2
    have a3 := kk H1 locs1 a1 a2
    rw [List.map_append] at a3
    cases r1 <;> exact a3
  rcases jv_isC_eq hci with ⟨rfl, rfl⟩ | ⟨rfl, rfl⟩ | ⟨rfl, rfl⟩
  · -- static
    have e := jv_len1 hl rfl; subst e
    have hstack : (F0 m pc ls (st.map (jv_vl (jv_ad G)))).stack = ((st.take na2).reverse.map (jv_vl (jv_ad G))).reverse ++ (st.drop na2).map (jv_vl (jv_ad G)) := by
      show st.map (jv_vl (jv_ad G)) = _
      rw [hst]
      simp
    have hps : PreS s H (jv_Pc D dA G adV L xs (st.take na2).reverse h) ((st.take na2).reverse.map (jv_vl (jv_ad G))) := ⟨jv_blind, fun U hU hW => hpre U hU hW _ rfl⟩
    rw [if_pos rfl] at w5
    by_cases hne : ne = 0
    · rw [if_pos hne] at hlink
      exact jv_back (va_runS S hM ⟨callB_of na2 hts (jv_good w1) rfl rfl rfl (hts _ w2) (hts _ (jv_in_ok hlink)) w5 hRm, hts _ (w8 rfl)⟩ hps rfl (by rw [List.length_map, List.length_reverse]; exact hu) hsz hstack (hWd _ rfl) hdg hf) hS kk2
    · rw [if_neg hne, decide_eq_true_eq] at hlink
      exact jv_back (va_runSN S hM ⟨va_cnB na2 hts (jv_good w1) rfl rfl rfl (hK.2.2.2.2.2.2.2.2.1 _ hlink) (hts _ w2) w5 hRm, hts _ (w8 rfl), trivial⟩ hps rfl (by rw [List.length_map, List.length_reverse]; exact hu) hsz hstack (hWd _ rfl) hdg hf) hS kk2
  · -- virtual
    have e := jv_len1 hl rfl; subst e
    rw [if_neg (by decide)] at w5
    have hpos := w7 (by decide)
    split at hrec
    · rename_i h0; cases h0
    · split at hrec
      · rename_i a hlast
        simp only [Bool.and_eq_true, decide_eq_true_eq] at hrec
        obtain ⟨ha, hrec⟩ := hrec
        split at hrec
        · rename_i dcl fs hcell
          rw [decide_eq_true_eq] at hrec
          have hdec := List.getLast?_eq_some_iff.mp hlast
          obtain ⟨u0, hu0⟩ := hdec
          have hcl9 : ow2 < 9 := by
            rcases Nat.lt_or_ge ow2 9 with q | q
            · exact q
            · exfalso
              rw [hrec] at hcell
              have h9 := hR.2.2.1 a _ (hR.at ha hcell)
              obtain ⟨r9, h10, -⟩ := h9
              have : vwCl[ow2]? = none := List.getElem?_eq_none (by show 9 ≤ ow2; exact q)
              rw [this] at h10
              cases h10
          subst hrec
          have hArr : (Value.ref (jv_ad G a) :: u0.reverse.map (jv_vl (jv_ad G))) = (st.take na2).reverse.map (jv_vl (jv_ad G)) := by rw [hu0]; simp [jv_vl]
          have hlen0 : u0.length = na2 - 1 := by
            have : (u0 ++ [Value.ref a]).length = na2 := by rw [← hu0]; exact hu
            simp only [List.length_append, List.length_cons, List.length_nil] at this
            omega
          have hstack : (F0 m pc ls (st.map (jv_vl (jv_ad G)))).stack = (u0.reverse.map (jv_vl (jv_ad G))).reverse ++ .ref (jv_ad G a) :: (st.drop na2).map (jv_vl (jv_ad G)) := by
            show st.map (jv_vl (jv_ad G)) = _
            rw [hst, hu0]
            simp [jv_vl]
          have hpv : PreV s H (jv_ym z).1.cls (jv_ad G a) (jv_Pc D dA G adV L xs (st.take na2).reverse h) (u0.reverse.map (jv_vl (jv_ad G))) := by
            refine ⟨jv_blind, ?_, fun U hU hW => hpre U hU hW _ (by rw [hArr])⟩
            rw [w4]
            exact va_recv hK.1 hR.2.2.1 (jv_cls_ok dcl hcl9) (hR.at ha hcell)
          by_cases hne : ne = 0
          · rw [if_pos hne] at hlink
            exact jv_back (va_runV S hM ⟨callB_of (na2 - 1) hts (jv_good w1) rfl rfl rfl (hts _ w2) (hts _ (jv_in_ok hlink)) w5 hRm, hts _ (w9 rfl).1, hts _ (w9 rfl).2⟩ hpv rfl (by rw [List.length_map, List.length_reverse]; exact hlen0) hsz hstack (hWd _ rfl) hdg hf) hS kk2
          · rw [if_neg hne, decide_eq_true_eq] at hlink
            exact jv_back (va_runVN S hM ⟨va_cnB (na2 - 1) hts (jv_good w1) rfl rfl rfl (hK.2.2.2.2.2.2.2.2.1 _ hlink) (hts _ w2) w5 hRm, hts _ (w9 rfl).1, hts _ (w9 rfl).2⟩ hpv rfl (by rw [List.length_map, List.length_reverse]; exact hlen0) hsz hstack (hWd _ rfl) hdg hf) hS kk2
        · cases hrec
      · cases hrec
  · -- constructor
    have e := jv_len1 hl rfl; subst e
    rw [if_neg (by decide)] at w5
    obtain ⟨-, x1, x2, x3⟩ := w10 (by decide) (by decide)
    split at hrec
    · rename_i h0; cases h0
    · split at hrec
      · rename_i a hlast
        have hdec := List.getLast?_eq_some_iff.mp hlast
        obtain ⟨u0, hu0⟩ := hdec
        have hArr : (Value.ref (jv_ad G a) :: u0.reverse.map (jv_vl (jv_ad G))) = (st.take na2).reverse.map (jv_vl (jv_ad G)) := by rw [hu0]; simp [jv_vl]
        have hlen0 : u0.length = na2 - 1 := by
          have : (u0 ++ [Value.ref a]).length = na2 := by rw [← hu0]; exact hu
          simp only [List.length_append, List.length_cons, List.length_nil] at this
          omega
        have hstack : (F0 m pc ls (st.map (jv_vl (jv_ad G)))).stack = (u0.reverse.map (jv_vl (jv_ad G))).reverse ++ .ref (jv_ad G a) :: (st.drop na2).map (jv_vl (jv_ad G)) := by
          show st.map (jv_vl (jv_ad G)) = _
          rw [hst, hu0]
          simp [jv_vl]
        have hpv : PreS s H (jv_Pc D dA G adV L xs (st.take na2).reverse h) (.ref (jv_ad G a) :: u0.reverse.map (jv_vl (jv_ad G))) := ⟨jv_blind, fun U hU hW => hpre U hU hW _ (by rw [hArr])⟩
        rw [x3] at hM w1
        by_cases hne : ne = 0
        · rw [if_pos hne] at hlink
          exact jv_back (va_runI S hM ⟨callB_of (na2 - 1) hts (jv_good w1) rfl rfl rfl (hts _ w2) (hts _ (jv_in_ok hlink)) w5 hRm, x2, hts _ x1⟩ hpv rfl (by rw [List.length_map, List.length_reverse]; exact hlen0) hsz hstack (hWd _ rfl) hdg hf) hS kk2
        · rw [if_neg hne, decide_eq_true_eq] at hlink
          exact jv_back (va_runIN S hM ⟨va_cnB (na2 - 1) hts (jv_good w1) rfl rfl rfl (hK.2.2.2.2.2.2.2.2.1 _ hlink) (hts _ w2) w5 hRm, x2, hts _ x1⟩ hpv rfl (by rw [List.length_map, List.length_reverse]; exact hlen0) hsz hstack (hWd _ rfl) hdg hf) hS kk2
      · cases hrec
/-- what the J machine's run says of the machine, from the middle of a method -/
def jv_OK (l : Launch) (D : va_G) (dA : Nat → ClassId) (G : jv_G) (adV : Nat → Nat) (L : Nat) (xs : Nat → Int32) (y pc : Nat) (Lv : List (Option Value)) (st : List Value) (h : jv_H) (r : Option Value) (h' : jv_H) : Prop :=
  ∀ (p : Program) (e : Env) (R : Room) (s : State) (m : MethodId) (args : Array Value) (below : List Frame) (meth : Method) (c : Code) (H : Heap) (locs : List Loc) (cells slots tc ts : Nat) (Q : State → Prop) (ls : Array Slot) (ow kd na mL fr lo : Nat),
    jv_inf y = some (ow, kd, na, mL, fr, lo) → CallFix p m c (jv_ym y).2.1 mL s args jv_T (jv_own ow) → (kd = 2 → meth.name = "<init>") → jv_Kn D dA G adV L xs s → jv_Rep D dA G L xs h H → va_S (fun q => G.1 ≤ q) s.heap H locs → jv_Lc (jv_ad G) ls mL Lv → h'.2.1 ≤ 1000000 → fr ≤ R.frames → lo ≤ R.locals →
    tc = cells + (h'.2.1 - h.2.1) → ts = slots + (h'.2.2 - h.2.2) → tc ≤ R.cells → ts ≤ R.slots →
    (∀ (H' : Heap) (locs' : List Loc) (pc' : Nat) (ls' : Array Slot) (st' : List Value) (i : Instr) (len : Nat), decode (jv_ym y).2.1 pc' = .ok (i, len) → (jv_sw i = true ∨ len = jv_len i) → jv_ret (jv_ym y).2.2 i st' = some r → jv_Rep D dA G L xs h' H' → va_S (fun q => G.1 ≤ q) s.heap H' locs' → W p l e R s m args below meth c H' locs' tc ts Q (F0 m pc' ls' (st'.map (jv_vl (jv_ad G))))) →
    W p l e R s m args below meth c H locs cells slots Q (F0 m pc ls (st.map (jv_vl (jv_ad G))))
set_option maxHeartbeats 4000000 in
/-- a method's contract out of its body -/
theorem jv_met {z ow kd na mL fr lo : Nat} (hz : z < 271) (hq : jv_inf z = some (ow, kd, na, mL, fr, lo)) {a : List Value} (ha : ∀ v ∈ a, v.category = 1) (hn : a.length ≤ mL) {h h' : jv_H} {r : Option Value} (hok : jv_OK l D dA G adV L xs z 0 (a.map some ++ List.replicate (mL - a.length) none) [] h r h') (hm : h'.2.1 ≤ 1000000) :
    Met l (jv_ym z).1 (Cond.code (jv_ym z).1 (jv_ym z).2.1 mL (jv_ym z).2.2 :: jv_T) ({ frames := fr, cells := h'.2.1 - h.2.1, slots := h'.2.2 - h.2.2, locals := lo } : Room) (jv_Pc D dA G adV L xs a h) (jv_Qc D dA G L xs r h') (h'.2.1 - h.2.1) (h'.2.2 - h.2.2) (fun q => G.1 ≤ q) := by
  obtain ⟨w1, w2, w3, w4, w5, w6, w7, w8, w9, w10⟩ := jv_ckm_eq hz hq
  refine va_MetF (cc := (jv_ym z).2.1) (maxL := mL) (ret := (jv_ym z).2.2) (ws' := jv_T) w3 rfl ?_
  intro p e s m args below meth c s₁ B hml hP
  obtain ⟨rfl, hRep, hKn⟩ := hP
  have hx := B.exec
  have hb := B.bytes
  have hr := B.returns
  have hlocks := B.notSynchronized
  have hts : ∀ w ∈ jv_T, w.before (a.map (jv_vl (jv_ad G))).toArray s = true := fun w hw => atoms_spec (ws := Cond.code (jv_ym z).1 (jv_ym z).2.1 mL (jv_ym z).2.2 :: jv_T) B.pre w (List.mem_cons_of_mem _ hw)
  have hown : s.vm.findClass (jv_own ow) = some m.cls := by rw [← w4]; exact findClass_of_methodNamed B.named
  rw [lg_entry_eq]
  refine hok p e _ s m _ below meth c s.heap [] 0 0 (h'.2.1 - h.2.1) (h'.2.2 - h.2.2) _ _ ow kd na mL fr lo hq ⟨hx, hb, hml, hown, hts⟩ ?_ hKn hRep va_S.rf (jv_entry (jv_ad G) a mL ha hn) hm (Nat.le_refl _) (Nat.le_refl _) (Nat.zero_add _).symm (Nat.zero_add _).symm (Nat.le_refl _) (Nat.le_refl _) ?_
  · intro hk
    rw [(name_of_methodNamed B.named B.method).1]
    exact (w10 (by omega) (by omega)).2.2.1
  · intro H' locs' pc' ls' st' i len hd hl hret hR' hS'
    have hq2 : ∀ t : State, t.heap = H' → jv_Qc D dA G L xs r h' (a.map (jv_vl (jv_ad G))).toArray s (.returned (r.map (jv_vl (jv_ad G)))) t := fun t ht => ⟨rfl, by rw [ht]; exact hR', hS'.F ht⟩
    generalize hrt : (jv_ym z).2.2 = rt at hret hr
    unfold jv_ret at hret
    split at hret
    · have e := jv_len1 hl rfl; subst e
      cases hret
      exact W.vret hx hb hr (fun t ht _ => hq2 t ht) hS'.2.2 hd
    · have e := jv_len1 hl rfl; subst e
      split at hret
      · rename_i hnar
        cases hret
        exact W.zret hx hb hr hnar (fun t ht _ => hq2 t ht) hS'.2.2 hd
      · cases hret
    · have e := jv_len1 hl rfl; subst e
      cases hret
      exact W.aret hx hb hr (Or.inl ⟨_, rfl⟩) (Or.inr ⟨_, rfl⟩) (fun t ht _ => hq2 t ht) hS'.2.2 hd
    · have e := jv_len1 hl rfl; subst e
      cases hret
      exact W.fret hx hb hr (fun t ht _ => hq2 t ht) hS'.2.2 hd
    · have e := jv_len1 hl rfl; subst e
      cases hret
      exact W.dret hx hb hr (fun t ht _ => hq2 t ht) hS'.2.2 hd
    · cases hret
/-- the two members of String, by contract -/
def jv_LenMet (l : Launch) (D : va_G) (dA : Nat → ClassId) (G : jv_G) (adV : Nat → Nat) (L : Nat) (xs : Nat → Int32) : Prop := ∀ (i : Nat) (h : jv_H), i < 20 → Met l yJ0_length_8abf5 (Cond.code yJ0_length_8abf5 cJ0_length_8abf5 1 (some .int) :: jv_T) ({ frames := 1, cells := 0, slots := 0, locals := 20 } : Room) (jv_Pc D dA G adV L xs [.ref (1000001 + i)] h) (jv_Qc D dA G L xs (some (.int (Int32.ofNat (jv_byt.getD i []).length))) h) 0 0 (fun q => G.1 ≤ q)
def jv_ChrMet (l : Launch) (D : va_G) (dA : Nat → ClassId) (G : jv_G) (adV : Nat → Nat) (L : Nat) (xs : Nat → Int32) : Prop := ∀ (i : Nat) (j : Int32) (h : jv_H), i < 20 → ¬ (j < 0 ∨ (jv_byt.getD i []).length ≤ j.toNatClampNeg) → Met l yJ0_charAt_5068e (Cond.code yJ0_charAt_5068e cJ0_charAt_5068e 2 (some .char) :: jv_T) ({ frames := 5, cells := 0, slots := 0, locals := 99 } : Room) (jv_Pc D dA G adV L xs [.ref (1000001 + i), .int j] h) (jv_Qc D dA G L xs (some (.int ((jv_byt.getD i []).getD j.toNatClampNeg 0))) h) 0 0 (fun q => G.1 ≤ q)
end JSM
end
section
/-! THE TEXTS: String.length, String.charAt and what they call, over the claim's own literals; words by wip/gen/strs.py -/
theorem jw_codeLEN : Cond.code yJ0_length_8abf5 cJ0_length_8abf5 1 (some .int) ∈ jv_T := jv_in_ok (i := 2168) (by decide +kernel)
theorem jw_codeCH : Cond.code yJ0_charAt_5068e cJ0_charAt_5068e 2 (some .char) ∈ jv_T := jv_in_ok (i := 2178) (by decide +kernel)
theorem jw_codeCO : Cond.code yJ0_coder_7d493 cJ0_coder_7d493 1 (some .byte) ∈ jv_T := jv_in_ok (i := 2172) (by decide +kernel)
theorem jw_codeLA : Cond.code yJ0_isLatin1_aae02 cJ0_isLatin1_aae02 1 (some .boolean) ∈ jv_T := jv_in_ok (i := 2182) (by decide +kernel)
theorem jw_codeCI : Cond.code yJ0_checkIndex_df160 cJ0_checkIndex_df160 2 none ∈ jv_T := jv_in_ok (i := 2188) (by decide +kernel)
theorem jw_codeC1 : Cond.code yJ1_charAt_3b067 cJ1_charAt_3b067 2 (some .char) ∈ jv_T := jv_in_ok (i := 2185) (by decide +kernel)
theorem jw_codeC3 : Cond.code yJ3_checkIndex_8e157 cJ3_checkIndex_8e157 3 (some .int) ∈ jv_T := jv_in_ok (i := 2193) (by decide +kernel)
theorem jw_insLEN : Cond.instanceMethod yJ0_length_8abf5 ∈ jv_T := jv_in_ok (i := 2166) (by decide +kernel)
theorem jw_selLEN : Cond.selects RJ0 yJ0_length_8abf5 yJ0_length_8abf5 ∈ jv_T := jv_in_ok (i := 2167) (by decide +kernel)
theorem jw_insCH : Cond.instanceMethod yJ0_charAt_5068e ∈ jv_T := jv_in_ok (i := 2176) (by decide +kernel)
theorem jw_selCH : Cond.selects RJ0 yJ0_charAt_5068e yJ0_charAt_5068e ∈ jv_T := jv_in_ok (i := 2177) (by decide +kernel)
theorem jw_insCO : Cond.instanceMethod yJ0_coder_7d493 ∈ jv_T := jv_in_ok (i := 2170) (by decide +kernel)
theorem jw_selCO : Cond.selects RJ0 yJ0_coder_7d493 yJ0_coder_7d493 ∈ jv_T := jv_in_ok (i := 2171) (by decide +kernel)
theorem jw_insLA : Cond.instanceMethod yJ0_isLatin1_aae02 ∈ jv_T := jv_in_ok (i := 2180) (by decide +kernel)
theorem jw_selLA : Cond.selects RJ0 yJ0_isLatin1_aae02 yJ0_isLatin1_aae02 ∈ jv_T := jv_in_ok (i := 2181) (by decide +kernel)
theorem jw_staCI : Cond.static yJ0_checkIndex_df160 ∈ jv_T := jv_in_ok (i := 2187) (by decide +kernel)
theorem jw_staC1 : Cond.static yJ1_charAt_3b067 ∈ jv_T := jv_in_ok (i := 2184) (by decide +kernel)
theorem jw_staC3 : Cond.static yJ3_checkIndex_8e157 ∈ jv_T := jv_in_ok (i := 2192) (by decide +kernel)
theorem jw_ini0 : Cond.initialized RJ0 ∈ jv_T := jv_in_ok (i := 1034) (by decide +kernel)
theorem jw_ini1 : Cond.initialized RJ1 ∈ jv_T := jv_in_ok (i := 1035) (by decide +kernel)
theorem jw_ini3 : Cond.initialized RJ3 ∈ jv_T := jv_in_ok (i := 1036) (by decide +kernel)
theorem jw_lCO : Cond.methodLink RJ0 335 yJ0_coder_7d493 ∈ jv_T := jv_in_ok (i := 2169) (by decide +kernel)
theorem jw_lLA : Cond.methodLink RJ0 492 yJ0_isLatin1_aae02 ∈ jv_T := jv_in_ok (i := 2179) (by decide +kernel)
theorem jw_lC1 : Cond.methodLink RJ0 495 yJ1_charAt_3b067 ∈ jv_T := jv_in_ok (i := 2183) (by decide +kernel)
theorem jw_lCI : Cond.methodLink RJ1 9 yJ0_checkIndex_df160 ∈ jv_T := jv_in_ok (i := 2186) (by decide +kernel)
theorem jw_lC3 : Cond.methodLink RJ0 1059 yJ3_checkIndex_8e157 ∈ jv_T := jv_in_ok (i := 2191) (by decide +kernel)
theorem jw_fV : Cond.fieldLink RJ0 9 "java/lang/String" "value" "[B" ∈ jv_T := jv_in_ok (i := 7199) (by decide +kernel)
theorem jw_fC : Cond.fieldLink RJ0 15 "java/lang/String" "coder" "B" ∈ jv_T := jv_in_ok (i := 7200) (by decide +kernel)
theorem jw_fS : Cond.fieldLink RJ0 38 "java/lang/String" "COMPACT_STRINGS" "Z" ∈ jv_T := jv_in_ok (i := 2173) (by decide +kernel)
theorem jw_fF : Cond.fieldLink RJ0 1053 "jdk/internal/util/Preconditions" "SIOOBE_FORMATTER" "Ljava/util/function/BiFunction;" ∈ jv_T := jv_in_ok (i := 2189) (by decide +kernel)
theorem dJ0_length_8abf5_0 : decode cJ0_length_8abf5 0 = .ok (.aload_n 0, 1) := by decide +kernel
theorem dJ0_length_8abf5_1 : decode cJ0_length_8abf5 1 = .ok (.getfield 9, 3) := by decide +kernel
theorem dJ0_length_8abf5_4 : decode cJ0_length_8abf5 4 = .ok (.arraylength, 1) := by decide +kernel
theorem dJ0_length_8abf5_5 : decode cJ0_length_8abf5 5 = .ok (.aload_n 0, 1) := by decide +kernel
theorem dJ0_length_8abf5_6 : decode cJ0_length_8abf5 6 = .ok (.invokevirtual 335, 3) := by decide +kernel
theorem dJ0_length_8abf5_9 : decode cJ0_length_8abf5 9 = .ok (.ishr, 1) := by decide +kernel
theorem dJ0_length_8abf5_10 : decode cJ0_length_8abf5 10 = .ok (.ireturn, 1) := by decide +kernel
theorem dJ0_charAt_5068e_0 : decode cJ0_charAt_5068e 0 = .ok (.aload_n 0, 1) := by decide +kernel
theorem dJ0_charAt_5068e_1 : decode cJ0_charAt_5068e 1 = .ok (.invokevirtual 492, 3) := by decide +kernel
theorem dJ0_charAt_5068e_4 : decode cJ0_charAt_5068e 4 = .ok (.ifCond .eq 12, 3) := by decide +kernel
theorem dJ0_charAt_5068e_7 : decode cJ0_charAt_5068e 7 = .ok (.aload_n 0, 1) := by decide +kernel
theorem dJ0_charAt_5068e_8 : decode cJ0_charAt_5068e 8 = .ok (.getfield 9, 3) := by decide +kernel
theorem dJ0_charAt_5068e_11 : decode cJ0_charAt_5068e 11 = .ok (.iload_n 1, 1) := by decide +kernel
theorem dJ0_charAt_5068e_12 : decode cJ0_charAt_5068e 12 = .ok (.invokestatic 495, 3) := by decide +kernel
theorem dJ0_charAt_5068e_15 : decode cJ0_charAt_5068e 15 = .ok (.ireturn, 1) := by decide +kernel
theorem dJ0_charAt_5068e_16 : decode cJ0_charAt_5068e 16 = .ok (.aload_n 0, 1) := by decide +kernel
theorem dJ0_charAt_5068e_17 : decode cJ0_charAt_5068e 17 = .ok (.getfield 9, 3) := by decide +kernel
theorem dJ0_charAt_5068e_20 : decode cJ0_charAt_5068e 20 = .ok (.iload_n 1, 1) := by decide +kernel
theorem dJ0_charAt_5068e_21 : decode cJ0_charAt_5068e 21 = .ok (.invokestatic 498, 3) := by decide +kernel
theorem dJ0_charAt_5068e_24 : decode cJ0_charAt_5068e 24 = .ok (.ireturn, 1) := by decide +kernel
theorem dJ0_coder_7d493_0 : decode cJ0_coder_7d493 0 = .ok (.getstatic 38, 3) := by decide +kernel
theorem dJ0_coder_7d493_3 : decode cJ0_coder_7d493 3 = .ok (.ifCond .eq 10, 3) := by decide +kernel
theorem dJ0_coder_7d493_6 : decode cJ0_coder_7d493 6 = .ok (.aload_n 0, 1) := by decide +kernel
theorem dJ0_coder_7d493_7 : decode cJ0_coder_7d493 7 = .ok (.getfield 15, 3) := by decide +kernel
theorem dJ0_coder_7d493_10 : decode cJ0_coder_7d493 10 = .ok (.goto 4, 3) := by decide +kernel
theorem dJ0_coder_7d493_13 : decode cJ0_coder_7d493 13 = .ok (.iconst 1, 1) := by decide +kernel
theorem dJ0_coder_7d493_14 : decode cJ0_coder_7d493 14 = .ok (.ireturn, 1) := by decide +kernel
theorem dJ0_isLatin1_aae02_0 : decode cJ0_isLatin1_aae02 0 = .ok (.getstatic 38, 3) := by decide +kernel
theorem dJ0_isLatin1_aae02_3 : decode cJ0_isLatin1_aae02 3 = .ok (.ifCond .eq 14, 3) := by decide +kernel
theorem dJ0_isLatin1_aae02_6 : decode cJ0_isLatin1_aae02 6 = .ok (.aload_n 0, 1) := by decide +kernel
theorem dJ0_isLatin1_aae02_7 : decode cJ0_isLatin1_aae02 7 = .ok (.getfield 15, 3) := by decide +kernel
theorem dJ0_isLatin1_aae02_10 : decode cJ0_isLatin1_aae02 10 = .ok (.ifCond .ne 7, 3) := by decide +kernel
theorem dJ0_isLatin1_aae02_13 : decode cJ0_isLatin1_aae02 13 = .ok (.iconst 1, 1) := by decide +kernel
theorem dJ0_isLatin1_aae02_14 : decode cJ0_isLatin1_aae02 14 = .ok (.goto 4, 3) := by decide +kernel
theorem dJ0_isLatin1_aae02_17 : decode cJ0_isLatin1_aae02 17 = .ok (.iconst 0, 1) := by decide +kernel
theorem dJ0_isLatin1_aae02_18 : decode cJ0_isLatin1_aae02 18 = .ok (.ireturn, 1) := by decide +kernel
theorem dJ0_checkIndex_df160_0 : decode cJ0_checkIndex_df160 0 = .ok (.iload_n 0, 1) := by decide +kernel
theorem dJ0_checkIndex_df160_1 : decode cJ0_checkIndex_df160 1 = .ok (.iload_n 1, 1) := by decide +kernel
theorem dJ0_checkIndex_df160_2 : decode cJ0_checkIndex_df160 2 = .ok (.getstatic 1053, 3) := by decide +kernel
theorem dJ0_checkIndex_df160_5 : decode cJ0_checkIndex_df160 5 = .ok (.invokestatic 1059, 3) := by decide +kernel
theorem dJ0_checkIndex_df160_8 : decode cJ0_checkIndex_df160 8 = .ok (.pop, 1) := by decide +kernel
theorem dJ0_checkIndex_df160_9 : decode cJ0_checkIndex_df160 9 = .ok (.return_, 1) := by decide +kernel
theorem dJ1_charAt_3b067_0 : decode cJ1_charAt_3b067 0 = .ok (.iload_n 1, 1) := by decide +kernel
theorem dJ1_charAt_3b067_1 : decode cJ1_charAt_3b067 1 = .ok (.aload_n 0, 1) := by decide +kernel
theorem dJ1_charAt_3b067_2 : decode cJ1_charAt_3b067 2 = .ok (.arraylength, 1) := by decide +kernel
theorem dJ1_charAt_3b067_3 : decode cJ1_charAt_3b067 3 = .ok (.invokestatic 9, 3) := by decide +kernel
theorem dJ1_charAt_3b067_6 : decode cJ1_charAt_3b067 6 = .ok (.aload_n 0, 1) := by decide +kernel
theorem dJ1_charAt_3b067_7 : decode cJ1_charAt_3b067 7 = .ok (.iload_n 1, 1) := by decide +kernel
theorem dJ1_charAt_3b067_8 : decode cJ1_charAt_3b067 8 = .ok (.baload, 1) := by decide +kernel
theorem dJ1_charAt_3b067_9 : decode cJ1_charAt_3b067 9 = .ok (.sipush 255, 3) := by decide +kernel
theorem dJ1_charAt_3b067_12 : decode cJ1_charAt_3b067 12 = .ok (.iand, 1) := by decide +kernel
theorem dJ1_charAt_3b067_13 : decode cJ1_charAt_3b067 13 = .ok (.i2c, 1) := by decide +kernel
theorem dJ1_charAt_3b067_14 : decode cJ1_charAt_3b067 14 = .ok (.ireturn, 1) := by decide +kernel
theorem dJ3_checkIndex_8e157_0 : decode cJ3_checkIndex_8e157 0 = .ok (.iload_n 0, 1) := by decide +kernel
theorem dJ3_checkIndex_8e157_1 : decode cJ3_checkIndex_8e157 1 = .ok (.ifCond .lt 8, 3) := by decide +kernel
theorem dJ3_checkIndex_8e157_4 : decode cJ3_checkIndex_8e157 4 = .ok (.iload_n 0, 1) := by decide +kernel
theorem dJ3_checkIndex_8e157_5 : decode cJ3_checkIndex_8e157 5 = .ok (.iload_n 1, 1) := by decide +kernel
theorem dJ3_checkIndex_8e157_6 : decode cJ3_checkIndex_8e157 6 = .ok (.if_icmp .lt 10, 3) := by decide +kernel
theorem dJ3_checkIndex_8e157_9 : decode cJ3_checkIndex_8e157 9 = .ok (.aload_n 2, 1) := by decide +kernel
theorem dJ3_checkIndex_8e157_10 : decode cJ3_checkIndex_8e157 10 = .ok (.iload_n 0, 1) := by decide +kernel
theorem dJ3_checkIndex_8e157_11 : decode cJ3_checkIndex_8e157 11 = .ok (.iload_n 1, 1) := by decide +kernel
theorem dJ3_checkIndex_8e157_12 : decode cJ3_checkIndex_8e157 12 = .ok (.invokestatic 95, 3) := by decide +kernel
theorem dJ3_checkIndex_8e157_15 : decode cJ3_checkIndex_8e157 15 = .ok (.athrow, 1) := by decide +kernel
theorem dJ3_checkIndex_8e157_16 : decode cJ3_checkIndex_8e157 16 = .ok (.iload_n 0, 1) := by decide +kernel
theorem dJ3_checkIndex_8e157_17 : decode cJ3_checkIndex_8e157 17 = .ok (.ireturn, 1) := by decide +kernel
theorem jv_getD_mem {bl : List Int32} {n : Nat} (h : n < bl.length) : bl.getD n 0 ∈ bl := by
  rw [List.getD_eq_getElem?_getD, List.getElem?_eq_getElem h]
  exact List.getElem_mem h
theorem jv_byt_ok : ∀ i, i < 20 → jv_lens.getD i 0 = (jv_byt.getD i []).length ∧ (jv_byt.getD i []).length < 100 ∧ Int32.ofNat (jv_byt.getD i []).length >>> ((0 : Int32) &&& 31) = Int32.ofNat (jv_byt.getD i []).length ∧ ∀ x ∈ jv_byt.getD i [], ((x &&& 255).toUInt32 % 65536).toInt32 = x ∧ narrow .char (.int x) = .int x := by decide +kernel
section JST
variable {p : Program} {l : Launch} {e : Env} {R : Room} {s : State} {m : MethodId} {args : Array Value} {below : List Frame} {meth : Method} {c : Code} {H : Heap} {locs : List Loc} {cells slots : Nat} {Q : State → Prop}
variable {cc : ByteArray} {pc nL : Nat} {ls : Array Slot} {D : va_G} {dA : Nat → ClassId} {G : jv_G} {adV : Nat → Nat} {L : Nat} {xs : Nat → Int32}
def jv_Pr (D : va_G) (dA : Nat → ClassId) (G : jv_G) (adV : Nat → Nat) (L : Nat) (xs : Nat → Int32) (a : List Value) (h : jv_H) : Array Value → State → Prop := fun v U => v = a.toArray ∧ jv_Rep D dA G L xs h U.heap ∧ jv_Kn D dA G adV L xs U
theorem jv_blindR {a : List Value} {h : jv_H} : FrameBlind (jv_Pr D dA G adV L xs a h) := fun v U g mk hp => ⟨hp.1, hp.2.1, jv_Kn.same (u := U) (U := U.calling g mk v) rfl rfl hp.2.2⟩
/-- a static method of the JDK's is called -/
theorem jv_jS {own : String} (S : CallFix p m c cc nL s args jv_T own) (hK : jv_Kn D dA G adV L xs s) {h : jv_H} (hR : jv_Rep D dA G L xs h H) (hS : va_S (fun q => G.1 ≤ q) s.heap H locs) {y : MethodName} {bytes : ByteArray} {maxL index n f lo : Nat} {ret : Option FieldType} {As rest : List Value} {r : Option Value}
    (hM : Met l y (Cond.code y bytes maxL ret :: jv_T) ({ frames := f, cells := 0, slots := 0, locals := lo } : Room) (jv_Pr D dA G adV L xs As h) (jv_Qc D dA G L xs r h) 0 0 (fun q => G.1 ≤ q)) (w1 : Cond.code y bytes maxL ret ∈ jv_T) (w2 : Cond.initialized y.cls ∈ jv_T) (w3 : Cond.methodLink own index y ∈ jv_T) (w4 : Cond.static y ∈ jv_T)
    (hd : y.cls ≠ "java/lang/invoke/MethodHandle" ∧ y.cls ≠ "java/lang/invoke/VarHandle" ∧ (parseMethodDescriptor y.desc).map (fun d => d.parameters.length) = some n) (hRm : f + 1 ≤ R.frames ∧ 8 + (maxL + 11) + lo ≤ R.locals) (hn : As.length = n) (hsz : ls.size = nL) (hWd : jv_wd rest ≤ 8) (hdg : decode cc pc = .ok (.invokestatic index, 3)) (hf : cells ≤ R.cells ∧ slots ≤ R.slots)
    {st : List Value} (hst : st = As.reverse ++ rest)
    (kk : ∀ (H1 : Heap) (locs1 : List Loc), jv_Rep D dA G L xs h H1 → va_S (fun q => G.1 ≤ q) s.heap H1 locs1 → W p l e R s m args below meth c H1 locs1 cells slots Q (F0 m (pc + 3) ls ((r.map (jv_vl (jv_ad G))).toList ++ rest))) : W p l e R s m args below meth c H locs cells slots Q (F0 m pc ls st) := by
  have hts := S.2.2.2.2
  exact jv_back (va_runS S hM ⟨callB_of n hts (jv_good w1) rfl rfl rfl (hts _ w2) (hts _ w3) hd hRm, hts _ w4⟩ ⟨jv_blindR, fun U hU hW => ⟨rfl, by rw [hU]; exact hR, hK.next (by rw [hU]; exact hS) hW⟩⟩ rfl hn hsz hst (by show 2 * 0 + _ ≤ 8; unfold jv_wd at hWd; omega) hdg ⟨hf.1, hf.2⟩) hS kk
/-- a virtual method of String's is called -/
theorem jv_jV {own C : String} (S : CallFix p m c cc nL s args jv_T own) (hK : jv_Kn D dA G adV L xs s) {h : jv_H} (hR : jv_Rep D dA G L xs h H) (hS : va_S (fun q => G.1 ≤ q) s.heap H locs) {y : MethodName} {bytes : ByteArray} {maxL index n f lo b : Nat} {ret : Option FieldType} {As rest : List Value} {r : Option Value}
    (hM : Met l y (Cond.code y bytes maxL ret :: jv_T) ({ frames := f, cells := 0, slots := 0, locals := lo } : Room) (jv_Pr D dA G adV L xs (.ref b :: As) h) (jv_Qc D dA G L xs r h) 0 0 (fun q => G.1 ≤ q)) (w1 : Cond.code y bytes maxL ret ∈ jv_T) (w2 : Cond.initialized y.cls ∈ jv_T) (w3 : Cond.methodLink own index y ∈ jv_T) (w4 : Cond.instanceMethod y ∈ jv_T) (w5 : Cond.selects C y y ∈ jv_T)
    (hrv : ∃ cell : Cell, H[b]? = some cell ∧ cell.vm.isStatics = false ∧ s.vm.findClass C = some cell.cls)
    (hd : y.cls ≠ "java/lang/invoke/MethodHandle" ∧ y.cls ≠ "java/lang/invoke/VarHandle" ∧ (parseMethodDescriptor y.desc).map (fun d => d.parameters.length) = some n) (hRm : f + 1 ≤ R.frames ∧ 8 + (maxL + 11) + lo ≤ R.locals) (hn : As.length = n) (hsz : ls.size = nL) (hWd : jv_wd rest ≤ 8) (hdg : decode cc pc = .ok (.invokevirtual index, 3)) (hf : cells ≤ R.cells ∧ slots ≤ R.slots)
    {st : List Value} (hst : st = As.reverse ++ .ref b :: rest)
    (kk : ∀ (H1 : Heap) (locs1 : List Loc), jv_Rep D dA G L xs h H1 → va_S (fun q => G.1 ≤ q) s.heap H1 locs1 → W p l e R s m args below meth c H1 locs1 cells slots Q (F0 m (pc + 3) ls ((r.map (jv_vl (jv_ad G))).toList ++ rest))) : W p l e R s m args below meth c H locs cells slots Q (F0 m pc ls st) := by
  have hts := S.2.2.2.2
  exact jv_back (va_runV S hM ⟨callB_of n hts (jv_good w1) rfl rfl rfl (hts _ w2) (hts _ w3) hd hRm, hts _ w4, hts _ w5⟩ ⟨jv_blindR, hrv, fun U hU hW => ⟨rfl, by rw [hU]; exact hR, hK.next (by rw [hU]; exact hS) hW⟩⟩ rfl hn hsz hst (by show 2 * 0 + _ ≤ 8; unfold jv_wd at hWd; omega) hdg ⟨hf.1, hf.2⟩) hS kk
set_option maxRecDepth 100000 in
/-- Preconditions.checkIndex -/
theorem jv_metC3 (i n : Int32) (w : Value) (hw : w.category = 1) (h0 : ¬ i < 0) (h1 : i < n) (h : jv_H) : Met l yJ3_checkIndex_8e157 (Cond.code yJ3_checkIndex_8e157 cJ3_checkIndex_8e157 3 (some .int) :: jv_T) ({ frames := 0, cells := 0, slots := 0, locals := 0 } : Room) (jv_Pr D dA G adV L xs [.int i, .int n, w] h) (jv_Qc D dA G L xs (some (.int i)) h) 0 0 (fun q => G.1 ≤ q) := by
  refine va_MetF (cc := cJ3_checkIndex_8e157) (maxL := 3) (ret := some .int) (ws' := jv_T) (by decide +kernel) rfl ?_
  intro p e s m args below meth c s₁ B hml hP
  obtain ⟨rfl, hR, hK⟩ := hP
  have hx := B.exec
  have hb := B.bytes
  have hr := B.returns
  have hlocks := B.notSynchronized
  rw [lg_entry_eq]
  have hl := lv_entry [.int i, .int n, w] (n := 3) (by rw [jv_sl _ (by intro v hv; simp at hv; rcases hv with rfl | rfl | rfl <;> first | rfl | exact hw)]; exact Nat.le_refl 3)
  generalize ((lg_sl [.int i, .int n, w] ++ List.replicate (3 - (lg_sl [.int i, .int n, w]).length) Slot.unset).toArray) = ls at hl ⊢
  have l0 : ls[0]? = some (.val (.int i)) := hl.2.2 (0, .int i) (by simp [lv_args])
  have l1 : ls[1]? = some (.val (.int n)) := hl.2.2 (1, .int n) (by simp [lv_args, Value.category])
  refine lv_iload_n hx hb dJ3_checkIndex_8e157_0 rfl l0 ?_
  refine lv_if_lt (tgt := 9) hx hb dJ3_checkIndex_8e157_1 (by decide) (fun q => absurd q h0) (fun _ => ?_)
  refine lv_iload_n hx hb dJ3_checkIndex_8e157_4 rfl l0 ?_
  refine lv_iload_n hx hb dJ3_checkIndex_8e157_5 rfl l1 ?_
  refine lv_icmp_lt (tgt := 16) hx hb dJ3_checkIndex_8e157_6 (by decide) (fun _ => ?_) (fun q => absurd h1 q)
  refine lv_iload_n hx hb dJ3_checkIndex_8e157_16 rfl l0 ?_
  exact W.iret hx hb hr (fun t ht _ => ⟨rfl, by rw [ht]; exact hR, (va_S.rf (A := fun q => G.1 ≤ q)).F ht⟩) (fun q hq => by cases hq) dJ3_checkIndex_8e157_17
set_option maxRecDepth 100000 in
/-- String.checkIndex -/
theorem jv_metCI (i n : Int32) (h0 : ¬ i < 0) (h1 : i < n) (h : jv_H) : Met l yJ0_checkIndex_df160 (Cond.code yJ0_checkIndex_df160 cJ0_checkIndex_df160 2 none :: jv_T) ({ frames := 1, cells := 0, slots := 0, locals := 22 } : Room) (jv_Pr D dA G adV L xs [.int i, .int n] h) (jv_Qc D dA G L xs none h) 0 0 (fun q => G.1 ≤ q) := by
  refine va_MetF (cc := cJ0_checkIndex_df160) (maxL := 2) (ret := none) (ws' := jv_T) (by decide +kernel) rfl ?_
  intro p e s m args below meth c s₁ B hml hP
  obtain ⟨rfl, hR, hK⟩ := hP
  have hx := B.exec
  have hb := B.bytes
  have hr := B.returns
  have hlocks := B.notSynchronized
  have hts : ∀ w ∈ jv_T, w.before [Value.int i, .int n].toArray s = true := fun w hw => atoms_spec (ws := Cond.code yJ0_checkIndex_df160 cJ0_checkIndex_df160 2 none :: jv_T) B.pre w (List.mem_cons_of_mem _ hw)
  have hown : s.vm.findClass RJ0 = some m.cls := findClass_of_methodNamed B.named
  rw [lg_entry_eq]
  have hl := lv_entry [.int i, .int n] (n := 2) (Nat.le_of_ble_eq_true rfl)
  generalize ((lg_sl [.int i, .int n] ++ List.replicate (2 - (lg_sl [.int i, .int n]).length) Slot.unset).toArray) = ls at hl ⊢
  have l0 : ls[0]? = some (.val (.int i)) := hl.2.2 (0, .int i) (by simp [lv_args])
  have l1 : ls[1]? = some (.val (.int n)) := hl.2.2 (1, .int n) (by simp [lv_args, Value.category])
  have hS : va_S (fun q => G.1 ≤ q) s.heap s.heap [] := va_S.rf
  obtain ⟨v, hv, hZ⟩ := hK.2.2.2.2.2.2.2.2.2.2
  have hvc : v.category = 1 := by rcases hv with rfl | ⟨a, rfl⟩ <;> rfl
  refine lv_iload_n hx hb dJ0_checkIndex_df160_0 rfl l0 ?_
  refine lv_iload_n hx hb dJ0_checkIndex_df160_1 rfl l1 ?_
  refine va_gets hx hb hZ hS hown (hts _ jw_fF) (fun _ q => q) dJ0_checkIndex_df160_2 ?_
  refine jv_jS (n := 3) (As := [.int i, .int n, v]) (rest := []) ⟨hx, hb, hml, hown, hts⟩ hK hR hS (jv_metC3 i n v hvc h0 h1 h) jw_codeC3 jw_ini3 jw_lC3 jw_staC3 (by decide +kernel) ⟨Nat.le_refl _, Nat.le_refl _⟩ rfl hl.1 (by decide) dJ0_checkIndex_df160_5 ⟨Nat.le_refl _, Nat.le_refl _⟩ rfl (fun H1 locs1 hR1 hS1 => ?_)
  refine lv_pop (va := .int i) hx hb dJ0_checkIndex_df160_8 rfl ?_
  exact W.vret hx hb hr (fun t ht _ => ⟨rfl, by rw [ht]; exact hR1, hS1.F ht⟩) hS1.2.2 dJ0_checkIndex_df160_9
set_option maxRecDepth 100000 in
/-- StringLatin1.charAt over the bytes of text k -/
theorem jv_metC1 (k : Nat) (j : Int32) (hk : k < 20) (hj : ¬ (j < 0 ∨ (jv_byt.getD k []).length ≤ j.toNatClampNeg)) (h : jv_H) : Met l yJ1_charAt_3b067 (Cond.code yJ1_charAt_3b067 cJ1_charAt_3b067 2 (some .char) :: jv_T) ({ frames := 2, cells := 0, slots := 0, locals := 43 } : Room) (jv_Pr D dA G adV L xs [.ref (adV k), .int j] h) (jv_Qc D dA G L xs (some (.int ((jv_byt.getD k []).getD j.toNatClampNeg 0))) h) 0 0 (fun q => G.1 ≤ q) := by
  obtain ⟨hlen, hlt, hsh, hch⟩ := jv_byt_ok k hk
  refine va_MetF (cc := cJ1_charAt_3b067) (maxL := 2) (ret := some .char) (ws' := jv_T) (by decide +kernel) rfl ?_
  intro p e s m args below meth c s₁ B hml hP
  obtain ⟨rfl, hR, hK⟩ := hP
  have hx := B.exec
  have hb := B.bytes
  have hr := B.returns
  have hlocks := B.notSynchronized
  have hts : ∀ w ∈ jv_T, w.before [Value.ref (adV k), .int j].toArray s = true := fun w hw => atoms_spec (ws := Cond.code yJ1_charAt_3b067 cJ1_charAt_3b067 2 (some .char) :: jv_T) B.pre w (List.mem_cons_of_mem _ hw)
  have hown : s.vm.findClass RJ1 = some m.cls := findClass_of_methodNamed B.named
  rw [lg_entry_eq]
  have hl := lv_entry [.ref (adV k), .int j] (n := 2) (Nat.le_of_ble_eq_true rfl)
  generalize ((lg_sl [.ref (adV k), .int j] ++ List.replicate (2 - (lg_sl [.ref (adV k), .int j]).length) Slot.unset).toArray) = ls at hl ⊢
  have l0 : ls[0]? = some (.val (.ref (adV k))) := hl.2.2 (0, .ref (adV k)) (by simp [lv_args])
  have l1 : ls[1]? = some (.val (.int j)) := hl.2.2 (1, .int j) (by simp [lv_args, Value.category])
  have hS : va_S (fun q => G.1 ≤ q) s.heap s.heap [] := va_S.rf
  have hT := (hK.2.2.2.2.1.1 k hk).2.2.2
  rw [hlen] at hT
  have hj0 : ¬ j < 0 := fun q => hj (Or.inl q)
  have hjn : j.toNatClampNeg < (jv_byt.getD k []).length := Nat.not_le.mp (fun q => hj (Or.inr q))
  have hj1 : j < Int32.ofNat (jv_byt.getD k []).length := by
    have e1 : (0 : Int) ≤ j.toInt := by
      have := Int32.not_lt.mp hj0
      simpa using Int32.le_iff_toInt_le.mp this
    have e2 : j.toInt = (j.toNatClampNeg : Int) := by
      show j.toInt = ((j.toInt.toNat : Nat) : Int)
      omega
    rw [Int32.lt_iff_toInt_lt, e2, show (Int32.ofNat (jv_byt.getD k []).length).toInt = ((jv_byt.getD k []).length : Int) from nI_toInt (by omega)]
    omega
  have hmem : (jv_byt.getD k []).getD j.toNatClampNeg 0 ∈ jv_byt.getD k [] := jv_getD_mem hjn
  obtain ⟨hc1, hc2⟩ := hch _ hmem
  refine lv_iload_n hx hb dJ1_charAt_3b067_0 rfl l1 ?_
  refine lv_aload_n hx hb dJ1_charAt_3b067_1 rfl l0 ?_
  refine va_tlen hx hb hT hS rfl dJ1_charAt_3b067_2 ?_
  refine jv_jS (n := 2) (As := [.int j, .int (Int32.ofNat (jv_byt.getD k []).length)]) (rest := []) ⟨hx, hb, hml, hown, hts⟩ hK hR hS (jv_metCI j _ hj0 hj1 h) jw_codeCI jw_ini0 jw_lCI jw_staCI (by decide +kernel) ⟨Nat.le_refl _, Nat.le_refl _⟩ rfl hl.1 (by decide) dJ1_charAt_3b067_3 ⟨Nat.le_refl _, Nat.le_refl _⟩ rfl (fun H1 locs1 hR1 hS1 => ?_)
  refine lv_aload_n hx hb dJ1_charAt_3b067_6 rfl l0 ?_
  refine lv_iload_n hx hb dJ1_charAt_3b067_7 rfl l1 ?_
  refine va_tb hx hb hT hS1 hj rfl dJ1_charAt_3b067_8 ?_
  refine lv_sipush (v := 255) hx hb dJ1_charAt_3b067_9 (by decide) ?_
  refine lv_iand hx hb dJ1_charAt_3b067_12 ?_
  refine lv_i2c hx hb dJ1_charAt_3b067_13 hc1 ?_
  exact W.zret hx hb hr hc2 (fun t ht _ => ⟨rfl, by rw [ht]; exact hR1, hS1.F ht⟩) hS1.2.2 dJ1_charAt_3b067_14
set_option maxRecDepth 100000 in
/-- String.coder of text k -/
theorem jv_metCO (k : Nat) (hk : k < 20) (h : jv_H) : Met l yJ0_coder_7d493 (Cond.code yJ0_coder_7d493 cJ0_coder_7d493 1 (some .byte) :: jv_T) ({ frames := 0, cells := 0, slots := 0, locals := 0 } : Room) (jv_Pr D dA G adV L xs [.ref (G.2.2 k)] h) (jv_Qc D dA G L xs (some (.int 0)) h) 0 0 (fun q => G.1 ≤ q) := by
  refine va_MetF (cc := cJ0_coder_7d493) (maxL := 1) (ret := some .byte) (ws' := jv_T) (by decide +kernel) rfl ?_
  intro p e s m args below meth c s₁ B hml hP
  obtain ⟨rfl, hR, hK⟩ := hP
  have hx := B.exec
  have hb := B.bytes
  have hr := B.returns
  have hlocks := B.notSynchronized
  have hts : ∀ w ∈ jv_T, w.before [Value.ref (G.2.2 k)].toArray s = true := fun w hw => atoms_spec (ws := Cond.code yJ0_coder_7d493 cJ0_coder_7d493 1 (some .byte) :: jv_T) B.pre w (List.mem_cons_of_mem _ hw)
  have hown : s.vm.findClass RJ0 = some m.cls := findClass_of_methodNamed B.named
  rw [lg_entry_eq]
  have hl := lv_entry [.ref (G.2.2 k)] (n := 1) (Nat.le_of_ble_eq_true rfl)
  generalize ((lg_sl [.ref (G.2.2 k)] ++ List.replicate (1 - (lg_sl [.ref (G.2.2 k)]).length) Slot.unset).toArray) = ls at hl ⊢
  have l0 : ls[0]? = some (.val (.ref (G.2.2 k))) := hl.2.2 (0, .ref (G.2.2 k)) (by simp [lv_args])
  have hS : va_S (fun q => G.1 ≤ q) s.heap s.heap [] := va_S.rf
  refine va_gets hx hb hK.2.2.2.2.2.2.2.2.2.1 hS hown (hts _ jw_fS) (fun _ q => q) dJ0_coder_7d493_0 ?_
  refine lv_if_eq (tgt := 13) hx hb dJ0_coder_7d493_3 (by decide) (fun q => absurd q (by decide)) (fun _ => ?_)
  refine lv_aload_n hx hb dJ0_coder_7d493_6 rfl l0 ?_
  refine vk_getf hx hb (hK.2.2.2.2.1.1 k hk).2.1 hS hown (hts _ jw_fC) (fun _ q => q) dJ0_coder_7d493_7 ?_
  refine lv_goto (tgt := 14) hx hb dJ0_coder_7d493_10 (by decide) ?_
  exact W.zret hx hb hr (by decide) (fun t ht _ => ⟨rfl, by rw [ht]; exact hR, hS.F ht⟩) (fun q hq => by cases hq) dJ0_coder_7d493_14
set_option maxRecDepth 100000 in
/-- String.isLatin1 of text k -/
theorem jv_metLA (k : Nat) (hk : k < 20) (h : jv_H) : Met l yJ0_isLatin1_aae02 (Cond.code yJ0_isLatin1_aae02 cJ0_isLatin1_aae02 1 (some .boolean) :: jv_T) ({ frames := 0, cells := 0, slots := 0, locals := 0 } : Room) (jv_Pr D dA G adV L xs [.ref (G.2.2 k)] h) (jv_Qc D dA G L xs (some (.int 1)) h) 0 0 (fun q => G.1 ≤ q) := by
  refine va_MetF (cc := cJ0_isLatin1_aae02) (maxL := 1) (ret := some .boolean) (ws' := jv_T) (by decide +kernel) rfl ?_
  intro p e s m args below meth c s₁ B hml hP
  obtain ⟨rfl, hR, hK⟩ := hP
  have hx := B.exec
  have hb := B.bytes
  have hr := B.returns
  have hlocks := B.notSynchronized
  have hts : ∀ w ∈ jv_T, w.before [Value.ref (G.2.2 k)].toArray s = true := fun w hw => atoms_spec (ws := Cond.code yJ0_isLatin1_aae02 cJ0_isLatin1_aae02 1 (some .boolean) :: jv_T) B.pre w (List.mem_cons_of_mem _ hw)
  have hown : s.vm.findClass RJ0 = some m.cls := findClass_of_methodNamed B.named
  rw [lg_entry_eq]
  have hl := lv_entry [.ref (G.2.2 k)] (n := 1) (Nat.le_of_ble_eq_true rfl)
  generalize ((lg_sl [.ref (G.2.2 k)] ++ List.replicate (1 - (lg_sl [.ref (G.2.2 k)]).length) Slot.unset).toArray) = ls at hl ⊢
  have l0 : ls[0]? = some (.val (.ref (G.2.2 k))) := hl.2.2 (0, .ref (G.2.2 k)) (by simp [lv_args])
  have hS : va_S (fun q => G.1 ≤ q) s.heap s.heap [] := va_S.rf
  refine va_gets hx hb hK.2.2.2.2.2.2.2.2.2.1 hS hown (hts _ jw_fS) (fun _ q => q) dJ0_isLatin1_aae02_0 ?_
  refine lv_if_eq (tgt := 17) hx hb dJ0_isLatin1_aae02_3 (by decide) (fun q => absurd q (by decide)) (fun _ => ?_)
  refine lv_aload_n hx hb dJ0_isLatin1_aae02_6 rfl l0 ?_
  refine vk_getf hx hb (hK.2.2.2.2.1.1 k hk).2.1 hS hown (hts _ jw_fC) (fun _ q => q) dJ0_isLatin1_aae02_7 ?_
  refine lv_if_ne (tgt := 17) hx hb dJ0_isLatin1_aae02_10 (by decide) (fun q => absurd rfl q) (fun _ => ?_)
  refine lv_iconst (v := 1) hx hb dJ0_isLatin1_aae02_13 (by decide) ?_
  refine lv_goto (tgt := 18) hx hb dJ0_isLatin1_aae02_14 (by decide) ?_
  exact W.zret hx hb hr (by decide) (fun t ht _ => ⟨rfl, by rw [ht]; exact hR, hS.F ht⟩) (fun q hq => by cases hq) dJ0_isLatin1_aae02_18
set_option maxRecDepth 100000 in
theorem jv_len_met : jv_LenMet l D dA G adV L xs := by
  intro k h hk
  obtain ⟨hlen, hlt, hsh, hch⟩ := jv_byt_ok k hk
  refine va_MetF (cc := cJ0_length_8abf5) (maxL := 1) (ret := some .int) (ws' := jv_T) (by decide +kernel) rfl ?_
  intro p e s m args below meth c s₁ B hml hP
  obtain ⟨hargs, hR, hK⟩ := hP
  have hargs2 : args = [Value.ref (G.2.2 k)].toArray := by
    rw [hargs]
    show [Value.ref (jv_ad G (1000001 + k))].toArray = _
    rw [jv_ad_txt]
  subst hargs2
  have hx := B.exec
  have hb := B.bytes
  have hr := B.returns
  have hlocks := B.notSynchronized
  have hts : ∀ w ∈ jv_T, w.before [Value.ref (G.2.2 k)].toArray s = true := fun w hw => atoms_spec (ws := Cond.code yJ0_length_8abf5 cJ0_length_8abf5 1 (some .int) :: jv_T) B.pre w (List.mem_cons_of_mem _ hw)
  have hown : s.vm.findClass RJ0 = some m.cls := findClass_of_methodNamed B.named
  rw [lg_entry_eq]
  have hl := lv_entry [.ref (G.2.2 k)] (n := 1) (Nat.le_of_ble_eq_true rfl)
  generalize ((lg_sl [.ref (G.2.2 k)] ++ List.replicate (1 - (lg_sl [.ref (G.2.2 k)]).length) Slot.unset).toArray) = ls at hl ⊢
  have l0 : ls[0]? = some (.val (.ref (G.2.2 k))) := hl.2.2 (0, .ref (G.2.2 k)) (by simp [lv_args])
  have hS : va_S (fun q => G.1 ≤ q) s.heap s.heap [] := va_S.rf
  have hT := (hK.2.2.2.2.1.1 k hk).2.2.2
  rw [hlen] at hT
  refine lv_aload_n hx hb dJ0_length_8abf5_0 rfl l0 ?_
  refine vk_getf hx hb (hK.2.2.2.2.1.1 k hk).2.2.1 hS hown (hts _ jw_fV) (fun _ q => q) dJ0_length_8abf5_1 ?_
  refine va_tlen hx hb hT hS rfl dJ0_length_8abf5_4 ?_
  refine lv_aload_n hx hb dJ0_length_8abf5_5 rfl l0 ?_
  refine jv_jV (n := 0) (C := RJ0) (As := []) (b := G.2.2 k) (rest := [.int (Int32.ofNat (jv_byt.getD k []).length)]) ⟨hx, hb, hml, hown, hts⟩ hK hR hS (jv_metCO k hk h) jw_codeCO jw_ini0 jw_lCO jw_insCO jw_selCO (vk_recv hK.2.2.2.2.1 hk hS) (by decide +kernel) ⟨by decide, by decide⟩ rfl hl.1 (Nat.le_of_ble_eq_true rfl) dJ0_length_8abf5_6 ⟨Nat.le_refl _, Nat.le_refl _⟩ rfl (fun H1 locs1 hR1 hS1 => ?_)
  refine lv_ishr (x := Int32.ofNat (jv_byt.getD k []).length) (y := 0) hx hb dJ0_length_8abf5_9 ?_
  rw [hsh]
  exact W.iret hx hb hr (fun t ht _ => ⟨rfl, by rw [ht]; exact hR1, hS1.F ht⟩) hS1.2.2 dJ0_length_8abf5_10
set_option maxRecDepth 100000 in
theorem jv_chr_met : jv_ChrMet l D dA G adV L xs := by
  intro k j h hk hj
  refine va_MetF (cc := cJ0_charAt_5068e) (maxL := 2) (ret := some .char) (ws' := jv_T) (by decide +kernel) rfl ?_
  intro p e s m args below meth c s₁ B hml hP
  obtain ⟨hargs, hR, hK⟩ := hP
  have hargs2 : args = [Value.ref (G.2.2 k), .int j].toArray := by
    rw [hargs]
    show [Value.ref (jv_ad G (1000001 + k)), .int j].toArray = _
    rw [jv_ad_txt]
  subst hargs2
  have hx := B.exec
  have hb := B.bytes
  have hr := B.returns
  have hlocks := B.notSynchronized
  have hts : ∀ w ∈ jv_T, w.before [Value.ref (G.2.2 k), .int j].toArray s = true := fun w hw => atoms_spec (ws := Cond.code yJ0_charAt_5068e cJ0_charAt_5068e 2 (some .char) :: jv_T) B.pre w (List.mem_cons_of_mem _ hw)
  have hown : s.vm.findClass RJ0 = some m.cls := findClass_of_methodNamed B.named
  rw [lg_entry_eq]
  have hl := lv_entry [.ref (G.2.2 k), .int j] (n := 2) (Nat.le_of_ble_eq_true rfl)
  generalize ((lg_sl [.ref (G.2.2 k), .int j] ++ List.replicate (2 - (lg_sl [.ref (G.2.2 k), .int j]).length) Slot.unset).toArray) = ls at hl ⊢
  have l0 : ls[0]? = some (.val (.ref (G.2.2 k))) := hl.2.2 (0, .ref (G.2.2 k)) (by simp [lv_args])
  have l1 : ls[1]? = some (.val (.int j)) := hl.2.2 (1, .int j) (by simp [lv_args, Value.category])
  have hS : va_S (fun q => G.1 ≤ q) s.heap s.heap [] := va_S.rf
  obtain ⟨hlen, hlt, hsh, hch⟩ := jv_byt_ok k hk
  have hjn : j.toNatClampNeg < (jv_byt.getD k []).length := Nat.not_le.mp (fun q => hj (Or.inr q))
  have hmem : (jv_byt.getD k []).getD j.toNatClampNeg 0 ∈ jv_byt.getD k [] := jv_getD_mem hjn
  refine lv_aload_n hx hb dJ0_charAt_5068e_0 rfl l0 ?_
  refine jv_jV (n := 0) (C := RJ0) (As := []) (b := G.2.2 k) (rest := []) ⟨hx, hb, hml, hown, hts⟩ hK hR hS (jv_metLA k hk h) jw_codeLA jw_ini0 jw_lLA jw_insLA jw_selLA (vk_recv hK.2.2.2.2.1 hk hS) (by decide +kernel) ⟨by decide, by decide⟩ rfl hl.1 (by decide) dJ0_charAt_5068e_1 ⟨Nat.le_refl _, Nat.le_refl _⟩ rfl (fun H1 locs1 hR1 hS1 => ?_)
  refine lv_if_eq (x := 1) (tgt := 16) hx hb dJ0_charAt_5068e_4 (by decide) (fun q => absurd q (by decide)) (fun _ => ?_)
  refine lv_aload_n hx hb dJ0_charAt_5068e_7 rfl l0 ?_
  refine vk_getf hx hb (hK.2.2.2.2.1.1 k hk).2.2.1 hS1 hown (hts _ jw_fV) (fun _ q => q) dJ0_charAt_5068e_8 ?_
  refine lv_iload_n hx hb dJ0_charAt_5068e_11 rfl l1 ?_
  refine jv_jS (n := 2) (As := [.ref (adV k), .int j]) (rest := []) ⟨hx, hb, hml, hown, hts⟩ hK hR1 hS1 (jv_metC1 k j hk hj h) jw_codeC1 jw_ini1 jw_lC1 jw_staC1 (by decide +kernel) ⟨by decide, by decide⟩ rfl hl.1 (by decide) dJ0_charAt_5068e_12 ⟨Nat.le_refl _, Nat.le_refl _⟩ rfl (fun H2 locs2 hR2 hS2 => ?_)
  exact W.zret hx hb hr (hch _ hmem).2 (fun t ht _ => ⟨rfl, by rw [ht]; exact hR2, hS2.F ht⟩) hS2.2.2 dJ0_charAt_5068e_15
end JST
end
end
section
/-! THE J MACHINE IS RIGHT: the whole -/
theorem jw_lStr {ow idx z na ne : Nat} (h : jv_cal ow idx = some (z, na, ne)) : (z = 900 → Cond.methodLink (jv_own ow) idx Lib.objectInit ∈ jv_T) ∧ (z = 901 → Cond.methodLink (jv_own ow) idx yJ0_length_8abf5 ∈ jv_T) ∧ (z = 902 → Cond.methodLink (jv_own ow) idx yJ0_charAt_5068e ∈ jv_T) ∧ (z ≠ 900 → z ≠ 901 → z ≠ 902 → z < 271) := by
  have hck := jv_ckc_ok h
  unfold jv_ckc1 at hck
  refine ⟨fun hz => ?_, fun hz => ?_, fun hz => ?_, fun h0 h1 h2 => ?_⟩
  · subst hz
    exact jv_in_ok hck
  · subst hz
    exact jv_in_ok hck
  · subst hz
    exact jv_in_ok hck
  · rw [if_neg h0, if_neg h1, if_neg h2] at hck
    split at hck
    · simp only [Bool.and_eq_true, decide_eq_true_eq] at hck
      exact hck.1.2
    · cases hck
theorem jv_strlen_eq {st st' : List Value} (h0 : jv_strlen st = some st') : ∃ (i : Nat) (r : List Value), i < 20 ∧ st = .ref (1000001 + i) :: r ∧ st' = .int (Int32.ofNat (jv_byt.getD i []).length) :: r := by
  unfold jv_strlen at h0
  split at h0
  · rename_i a r
    split at h0
    · rename_i i htx
      obtain ⟨hi20, rfl⟩ := jv_tix_eq htx
      cases h0
      exact ⟨i, r, hi20, rfl, rfl⟩
    · cases h0
  · cases h0
theorem jv_strat_eq {st st' : List Value} (h0 : jv_strat st = some st') : ∃ (i : Nat) (j : Int32) (r : List Value), i < 20 ∧ ¬ (j < 0 ∨ (jv_byt.getD i []).length ≤ j.toNatClampNeg) ∧ st = .int j :: .ref (1000001 + i) :: r ∧ st' = .int ((jv_byt.getD i []).getD j.toNatClampNeg 0) :: r := by
  unfold jv_strat at h0
  split at h0
  · rename_i j a r
    split at h0
    · rename_i i htx
      obtain ⟨hi20, rfl⟩ := jv_tix_eq htx
      split at h0
      · rename_i hj
        cases h0
        exact ⟨i, j, r, hi20, hj, rfl, rfl⟩
      · cases h0
    · cases h0
  · cases h0
section JSS
variable {l : Launch} {D : va_G} {dA : Nat → ClassId} {G : jv_G} {adV : Nat → Nat} {L : Nat} {xs : Nat → Int32}
set_option maxHeartbeats 8000000 in
set_option maxRecDepth 100000 in
theorem jv_sound : ∀ (n y pc : Nat) (Lv : List (Option Value)) (st : List Value) (h h' : jv_H) (r : Option Value), jv_run n y pc Lv st h = some (r, h') → jv_OK l D dA G adV L xs y pc Lv st h r h'
  | 0, _, _, _, _, _, _, _, h0 => by cases h0
  | n + 1, y, pc, Lv, st, h, h', r, h0 => by
    intro p e R s m args below meth c H locs cells slots tc ts Q ls ow kd na mL fr lo hinf S hini hK hR hS hLv hm hfr hlo htc hts2 htcR htsR hend
    obtain ⟨ow1, kd1, na1, mL1, fr1, lo1, i, len, hinf1, hcode, hcase⟩ := jv_run_inv h0
    have he := Option.some.inj (hinf.symm.trans hinf1)
    cases he
    obtain ⟨hdg, hl⟩ := jv_code_ok hcode
    have S0 := S
    obtain ⟨hx, hb, hml, hown, hts⟩ := S0
    have hmono := jv_run_mono (n + 1) h0
    rcases hcase with ⟨hret, rfl⟩ | ⟨pc', L', st', h1, hs, hr⟩ | ⟨ck, idx, z, na', ne, hci, hcal, hz⟩
    · have e1 : tc = cells := by omega
      have e2 : ts = slots := by omega
      subst e1
      subst e2
      exact hend H locs pc ls st i len hdg hl hret hR hS
    · have m1 := jv_step_mono hs
      have m2 := jv_run_mono n hr
      refine jv_step_ok hx hb hown hts hK hR hS (fun q => hini (by simpa using q)) hLv hdg hl hs (by omega) (by omega) (by omega) ?_
      intro H' locs' ls' cells' slots' e1 e2 hR' hS' hL'
      exact jv_sound n y pc' L' st' h1 h' r hr p e R s m args below meth c H' locs' cells' slots' tc ts Q ls' ow kd na mL fr lo hinf S hini hK hR' hS' hL' hm hfr hlo (by omega) (by omega) htcR htsR hend
    · obtain ⟨q900, q901, q902, qz⟩ := jw_lStr hcal
      rcases hz with ⟨hz, a, rst, rfl, hck, hf1, hl1, hr⟩ | ⟨hz, st', hst, hck, hf1, hl1, hl2, hr⟩ | ⟨hz, st', hst, hck, hf1, hl1, hl2, hr⟩ | ⟨hz0, hz1, hz2, q, r1, h1, hq, hmay, hr1, hr⟩
      · subst hck
        have hi : i = .invokespecial idx := by
          rcases jv_isC_eq hci with ⟨hk, -⟩ | ⟨hk, -⟩ | ⟨-, hi⟩
          · cases hk
          · cases hk
          · exact hi
        subst hi
        have e := jv_len1 hl rfl
        subst e
        refine W.objInit (a := jv_ad G a) (rest := rst.map (jv_vl (jv_ad G))) hx hb hown (hts _ (q900 hz)) (hts _ (jv_in_ok jv_obI)) (hts _ (jv_in_ok jv_obC)) rfl (hLv.1.trans hml.symm) rfl hdg (by omega) ?_ ?_
        · show 2 * 0 + _ + 12 ≤ R.locals
          rw [jv_wd_map]
          omega
        · exact jv_sound n y (pc + 3) Lv rst h h' r hr p e R s m args below meth c H locs cells slots tc ts Q ls ow kd na mL fr lo hinf S hini hK hR hS hLv hm hfr hlo htc hts2 htcR htsR hend
      · subst hck
        have hi : i = .invokevirtual idx := by
          rcases jv_isC_eq hci with ⟨hk, -⟩ | ⟨-, hi⟩ | ⟨hk, -⟩
          · cases hk
          · exact hi
          · cases hk
        subst hi
        have e := jv_len1 hl rfl
        subst e
        obtain ⟨k, rst, hk20, rfl, rfl⟩ := jv_strlen_eq hst
        have hWd : jv_wd (rst.map (jv_vl (jv_ad G))) ≤ 8 := by
          have h9 : jv_wd rst ≤ 8 := hl2
          unfold jv_wd
          rw [jv_wd_map]
          exact h9
        have hcell : ∃ cell : Cell, H[jv_ad G (1000001 + k)]? = some cell ∧ cell.vm.isStatics = false ∧ s.vm.findClass RJ0 = some cell.cls := by
          rw [jv_ad_txt]
          exact vk_recv hK.2.2.2.2.1 hk20 hS
        refine jv_jV (C := RJ0) (As := []) (n := 0) (b := jv_ad G (1000001 + k)) (rest := rst.map (jv_vl (jv_ad G))) S hK hR hS (jv_len_met k h hk20) jw_codeLEN jw_ini0 (q901 hz) jw_insLEN jw_selLEN hcell (by decide +kernel) ⟨by show 1 + 1 ≤ R.frames; omega, by show 8 + (1 + 11) + 20 ≤ R.locals; omega⟩ rfl hLv.1 hWd hdg ⟨by omega, by omega⟩ rfl (fun H1 locs1 hR1 hS1 => ?_)
        exact jv_sound n y (pc + 3) Lv _ h h' r hr p e R s m args below meth c H1 locs1 cells slots tc ts Q ls ow kd na mL fr lo hinf S hini hK hR1 hS1 hLv hm hfr hlo htc hts2 htcR htsR hend
      · subst hck
        have hi : i = .invokevirtual idx := by
          rcases jv_isC_eq hci with ⟨hk, -⟩ | ⟨-, hi⟩ | ⟨hk, -⟩
          · cases hk
          · exact hi
          · cases hk
        subst hi
        have e := jv_len1 hl rfl
        subst e
        obtain ⟨k, j, rst, hk20, hj, rfl, rfl⟩ := jv_strat_eq hst
        have hWd : jv_wd (rst.map (jv_vl (jv_ad G))) ≤ 8 := by
          have h9 : jv_wd rst ≤ 8 := hl2
          unfold jv_wd
          rw [jv_wd_map]
          exact h9
        have hcell : ∃ cell : Cell, H[jv_ad G (1000001 + k)]? = some cell ∧ cell.vm.isStatics = false ∧ s.vm.findClass RJ0 = some cell.cls := by
          rw [jv_ad_txt]
          exact vk_recv hK.2.2.2.2.1 hk20 hS
        refine jv_jV (C := RJ0) (As := [.int j]) (n := 1) (b := jv_ad G (1000001 + k)) (rest := rst.map (jv_vl (jv_ad G))) S hK hR hS (jv_chr_met k j h hk20 hj) jw_codeCH jw_ini0 (q902 hz) jw_insCH jw_selCH hcell (by decide +kernel) ⟨by show 5 + 1 ≤ R.frames; omega, by show 8 + (2 + 11) + 99 ≤ R.locals; omega⟩ rfl hLv.1 hWd hdg ⟨by omega, by omega⟩ rfl (fun H1 locs1 hR1 hS1 => ?_)
        exact jv_sound n y (pc + 3) Lv _ h h' r hr p e R s m args below meth c H1 locs1 cells slots tc ts Q ls ow kd na mL fr lo hinf S hini hK hR1 hS1 hLv hm hfr hlo htc hts2 htcR htsR hend
      · obtain ⟨ow2, kd2, na2, mL2, fr2, lo2⟩ := q
        have m1 := jv_run_mono n hr1
        have m2 := jv_run_mono n hr
        have hmay2 := hmay
        unfold jv_may at hmay2
        simp only [Bool.and_eq_true, decide_eq_true_eq] at hmay2
        obtain ⟨⟨-, -, hn2, hn3, -, -, -, hw2⟩, -⟩ := hmay2
        have hlen : (st.take na').reverse.length = na' := by rw [List.length_reverse, List.length_take]; omega
        have hcat : ∀ v ∈ (st.take na').reverse, v.category = 1 := by
          intro v hv
          exact jv_wd_one (st.take na') (by rw [hw2, List.length_take]; omega) v (List.mem_reverse.mp hv)
        have hok := jv_sound n z 0 _ [] h h1 r1 hr1
        have hM := jv_met (qz hz0 hz1 hz2) hq hcat (by omega) (h := h) (h' := h1) (r := r1) (by rw [hlen]; exact hok) (by omega)
        refine jv_call_ok S hK hR hS hq hcal hz0 hz1 hz2 hdg hci hl hmay hfr hlo hLv.1 hM ⟨by omega, by omega⟩ ?_
        intro H1 locs1 hR1 hS1
        exact jv_sound n y (pc + 3) Lv _ h1 h' r hr p e R s m args below meth c H1 locs1 _ _ tc ts Q ls ow kd na mL fr lo hinf S hini hK hR1 hS1 hLv hm hfr hlo (by omega) (by omega) htcR htsR hend
end JSS
end
section
/-! THE START: what the Statement gives of it, as the J machine's knowledge -/
def jv_flat : List Cond := flatC (Jvm.Cond.and given_1 narrow_1)
def jv_tm (i : Nat) : Term := Term.string (jv_str.getD i ("", 0, "")).1 (jv_str.getD i ("", 0, "")).2.1
def jv_pf : List Nat := [9, 18, 28, 38, 51, 65, 80, 95, 109, 127, 144, 164, 186, 207, 231, 257, 284, 311, 337, 367]
theorem jv_fm1 : ∀ i, i < 20 → jv_flat[jv_pf.getD i 0]? = some (Cond.exactly (jv_tm i) "java/lang/String") := by decide +kernel
theorem jv_fl1 : ∀ i, i < 20 → Cond.exactly (jv_tm i) "java/lang/String" ∈ jv_flat := fun i hi => List.mem_of_getElem? (jv_fm1 i hi)
theorem jv_fm2 : ∀ i, i < 20 → jv_flat[jv_pf.getD i 0 + 1]? = some (Cond.eq (.field (jv_tm i) "java/lang/String" "coder" "B") (.int 0)) := by decide +kernel
theorem jv_fl2 : ∀ i, i < 20 → Cond.eq (.field (jv_tm i) "java/lang/String" "coder" "B") (.int 0) ∈ jv_flat := fun i hi => List.mem_of_getElem? (jv_fm2 i hi)
theorem jv_fm3 : ∀ i, i < 20 → jv_flat[jv_pf.getD i 0 + 2]? = some (Cond.arrayOf (.field (jv_tm i) "java/lang/String" "value" "[B") .byte) := by decide +kernel
theorem jv_fl3 : ∀ i, i < 20 → Cond.arrayOf (.field (jv_tm i) "java/lang/String" "value" "[B") .byte ∈ jv_flat := fun i hi => List.mem_of_getElem? (jv_fm3 i hi)
theorem jv_fm4 : ∀ i, i < 20 → jv_flat[jv_pf.getD i 0 + 3]? = some (Cond.eq (.length (.field (jv_tm i) "java/lang/String" "value" "[B")) (.int (Int32.ofNat (jv_lens.getD i 0)))) := by decide +kernel
theorem jv_fl4 : ∀ i, i < 20 → Cond.eq (.length (.field (jv_tm i) "java/lang/String" "value" "[B")) (.int (Int32.ofNat (jv_lens.getD i 0))) ∈ jv_flat := fun i hi => List.mem_of_getElem? (jv_fm4 i hi)
theorem jv_fm5 : ∀ i, i < 20 → ∀ j, j < jv_lens.getD i 0 → jv_flat[jv_pf.getD i 0 + 4 + j]? = some (Cond.eq (.elem (.field (jv_tm i) "java/lang/String" "value" "[B") (.int (Int32.ofNat j))) (.int ((jv_byt.getD i []).getD j 0))) := by decide +kernel
theorem jv_fl5 : ∀ i, i < 20 → ∀ j, j < jv_lens.getD i 0 → Cond.eq (.elem (.field (jv_tm i) "java/lang/String" "value" "[B") (.int (Int32.ofNat j))) (.int ((jv_byt.getD i []).getD j 0)) ∈ jv_flat := fun i hi j hj => List.mem_of_getElem? (jv_fm5 i hi j hj)
def jv_fp : List (List Nat) := [[0, 27, 36, 48, 61, 75, 89, 102, 119, 135, 154, 175, 195, 218, 243, 269, 295, 320, 349, 377],
  [27, 0, 37, 49, 62, 76, 90, 103, 120, 136, 155, 176, 196, 219, 244, 270, 296, 321, 350, 378],
  [36, 37, 0, 50, 63, 77, 91, 104, 121, 137, 156, 177, 197, 220, 245, 271, 297, 322, 351, 379],
  [48, 49, 50, 0, 64, 78, 92, 105, 122, 138, 157, 178, 198, 221, 246, 272, 298, 323, 352, 380],
  [61, 62, 63, 64, 0, 79, 93, 106, 123, 139, 158, 179, 199, 222, 247, 273, 299, 324, 353, 381],
  [75, 76, 77, 78, 79, 0, 94, 107, 124, 140, 159, 180, 200, 223, 248, 274, 300, 325, 354, 382],
  [89, 90, 91, 92, 93, 94, 0, 108, 125, 141, 160, 181, 201, 224, 249, 275, 301, 326, 355, 383],
  [102, 103, 104, 105, 106, 107, 108, 0, 126, 142, 161, 182, 202, 225, 250, 276, 302, 327, 356, 384],
  [119, 120, 121, 122, 123, 124, 125, 126, 0, 143, 162, 183, 203, 226, 251, 277, 303, 328, 357, 385],
  [135, 136, 137, 138, 139, 140, 141, 142, 143, 0, 163, 184, 204, 227, 252, 278, 304, 329, 358, 386],
  [154, 155, 156, 157, 158, 159, 160, 161, 162, 163, 0, 185, 205, 228, 253, 279, 305, 330, 359, 387],
  [175, 176, 177, 178, 179, 180, 181, 182, 183, 184, 185, 0, 206, 229, 254, 280, 306, 331, 360, 388],
  [195, 196, 197, 198, 199, 200, 201, 202, 203, 204, 205, 206, 0, 230, 255, 281, 307, 332, 361, 389],
  [218, 219, 220, 221, 222, 223, 224, 225, 226, 227, 228, 229, 230, 0, 256, 282, 308, 333, 362, 390],
  [243, 244, 245, 246, 247, 248, 249, 250, 251, 252, 253, 254, 255, 256, 0, 283, 309, 334, 363, 391],
  [269, 270, 271, 272, 273, 274, 275, 276, 277, 278, 279, 280, 281, 282, 283, 0, 310, 335, 364, 392],
  [295, 296, 297, 298, 299, 300, 301, 302, 303, 304, 305, 306, 307, 308, 309, 310, 0, 336, 365, 393],
  [320, 321, 322, 323, 324, 325, 326, 327, 328, 329, 330, 331, 332, 333, 334, 335, 336, 0, 366, 394],
  [349, 350, 351, 352, 353, 354, 355, 356, 357, 358, 359, 360, 361, 362, 363, 364, 365, 366, 0, 395],
  [377, 378, 379, 380, 381, 382, 383, 384, 385, 386, 387, 388, 389, 390, 391, 392, 393, 394, 395, 0]]
theorem jv_fl6_0 : ∀ j, j < 20 → 0 ≠ j → jv_flat[(jv_fp.getD 0 []).getD j 0]? = some (Cond.not (Cond.eq (jv_tm 0) (jv_tm j))) ∨ jv_flat[(jv_fp.getD 0 []).getD j 0]? = some (Cond.not (Cond.eq (jv_tm j) (jv_tm 0))) := by decide +kernel
theorem jv_fl6_1 : ∀ j, j < 20 → 1 ≠ j → jv_flat[(jv_fp.getD 1 []).getD j 0]? = some (Cond.not (Cond.eq (jv_tm 1) (jv_tm j))) ∨ jv_flat[(jv_fp.getD 1 []).getD j 0]? = some (Cond.not (Cond.eq (jv_tm j) (jv_tm 1))) := by decide +kernel
theorem jv_fl6_2 : ∀ j, j < 20 → 2 ≠ j → jv_flat[(jv_fp.getD 2 []).getD j 0]? = some (Cond.not (Cond.eq (jv_tm 2) (jv_tm j))) ∨ jv_flat[(jv_fp.getD 2 []).getD j 0]? = some (Cond.not (Cond.eq (jv_tm j) (jv_tm 2))) := by decide +kernel
theorem jv_fl6_3 : ∀ j, j < 20 → 3 ≠ j → jv_flat[(jv_fp.getD 3 []).getD j 0]? = some (Cond.not (Cond.eq (jv_tm 3) (jv_tm j))) ∨ jv_flat[(jv_fp.getD 3 []).getD j 0]? = some (Cond.not (Cond.eq (jv_tm j) (jv_tm 3))) := by decide +kernel
theorem jv_fl6_4 : ∀ j, j < 20 → 4 ≠ j → jv_flat[(jv_fp.getD 4 []).getD j 0]? = some (Cond.not (Cond.eq (jv_tm 4) (jv_tm j))) ∨ jv_flat[(jv_fp.getD 4 []).getD j 0]? = some (Cond.not (Cond.eq (jv_tm j) (jv_tm 4))) := by decide +kernel
theorem jv_fl6_5 : ∀ j, j < 20 → 5 ≠ j → jv_flat[(jv_fp.getD 5 []).getD j 0]? = some (Cond.not (Cond.eq (jv_tm 5) (jv_tm j))) ∨ jv_flat[(jv_fp.getD 5 []).getD j 0]? = some (Cond.not (Cond.eq (jv_tm j) (jv_tm 5))) := by decide +kernel
theorem jv_fl6_6 : ∀ j, j < 20 → 6 ≠ j → jv_flat[(jv_fp.getD 6 []).getD j 0]? = some (Cond.not (Cond.eq (jv_tm 6) (jv_tm j))) ∨ jv_flat[(jv_fp.getD 6 []).getD j 0]? = some (Cond.not (Cond.eq (jv_tm j) (jv_tm 6))) := by decide +kernel
theorem jv_fl6_7 : ∀ j, j < 20 → 7 ≠ j → jv_flat[(jv_fp.getD 7 []).getD j 0]? = some (Cond.not (Cond.eq (jv_tm 7) (jv_tm j))) ∨ jv_flat[(jv_fp.getD 7 []).getD j 0]? = some (Cond.not (Cond.eq (jv_tm j) (jv_tm 7))) := by decide +kernel
theorem jv_fl6_8 : ∀ j, j < 20 → 8 ≠ j → jv_flat[(jv_fp.getD 8 []).getD j 0]? = some (Cond.not (Cond.eq (jv_tm 8) (jv_tm j))) ∨ jv_flat[(jv_fp.getD 8 []).getD j 0]? = some (Cond.not (Cond.eq (jv_tm j) (jv_tm 8))) := by decide +kernel
theorem jv_fl6_9 : ∀ j, j < 20 → 9 ≠ j → jv_flat[(jv_fp.getD 9 []).getD j 0]? = some (Cond.not (Cond.eq (jv_tm 9) (jv_tm j))) ∨ jv_flat[(jv_fp.getD 9 []).getD j 0]? = some (Cond.not (Cond.eq (jv_tm j) (jv_tm 9))) := by decide +kernel
theorem jv_fl6_10 : ∀ j, j < 20 → 10 ≠ j → jv_flat[(jv_fp.getD 10 []).getD j 0]? = some (Cond.not (Cond.eq (jv_tm 10) (jv_tm j))) ∨ jv_flat[(jv_fp.getD 10 []).getD j 0]? = some (Cond.not (Cond.eq (jv_tm j) (jv_tm 10))) := by decide +kernel
theorem jv_fl6_11 : ∀ j, j < 20 → 11 ≠ j → jv_flat[(jv_fp.getD 11 []).getD j 0]? = some (Cond.not (Cond.eq (jv_tm 11) (jv_tm j))) ∨ jv_flat[(jv_fp.getD 11 []).getD j 0]? = some (Cond.not (Cond.eq (jv_tm j) (jv_tm 11))) := by decide +kernel
theorem jv_fl6_12 : ∀ j, j < 20 → 12 ≠ j → jv_flat[(jv_fp.getD 12 []).getD j 0]? = some (Cond.not (Cond.eq (jv_tm 12) (jv_tm j))) ∨ jv_flat[(jv_fp.getD 12 []).getD j 0]? = some (Cond.not (Cond.eq (jv_tm j) (jv_tm 12))) := by decide +kernel
theorem jv_fl6_13 : ∀ j, j < 20 → 13 ≠ j → jv_flat[(jv_fp.getD 13 []).getD j 0]? = some (Cond.not (Cond.eq (jv_tm 13) (jv_tm j))) ∨ jv_flat[(jv_fp.getD 13 []).getD j 0]? = some (Cond.not (Cond.eq (jv_tm j) (jv_tm 13))) := by decide +kernel
theorem jv_fl6_14 : ∀ j, j < 20 → 14 ≠ j → jv_flat[(jv_fp.getD 14 []).getD j 0]? = some (Cond.not (Cond.eq (jv_tm 14) (jv_tm j))) ∨ jv_flat[(jv_fp.getD 14 []).getD j 0]? = some (Cond.not (Cond.eq (jv_tm j) (jv_tm 14))) := by decide +kernel
theorem jv_fl6_15 : ∀ j, j < 20 → 15 ≠ j → jv_flat[(jv_fp.getD 15 []).getD j 0]? = some (Cond.not (Cond.eq (jv_tm 15) (jv_tm j))) ∨ jv_flat[(jv_fp.getD 15 []).getD j 0]? = some (Cond.not (Cond.eq (jv_tm j) (jv_tm 15))) := by decide +kernel
theorem jv_fl6_16 : ∀ j, j < 20 → 16 ≠ j → jv_flat[(jv_fp.getD 16 []).getD j 0]? = some (Cond.not (Cond.eq (jv_tm 16) (jv_tm j))) ∨ jv_flat[(jv_fp.getD 16 []).getD j 0]? = some (Cond.not (Cond.eq (jv_tm j) (jv_tm 16))) := by decide +kernel
theorem jv_fl6_17 : ∀ j, j < 20 → 17 ≠ j → jv_flat[(jv_fp.getD 17 []).getD j 0]? = some (Cond.not (Cond.eq (jv_tm 17) (jv_tm j))) ∨ jv_flat[(jv_fp.getD 17 []).getD j 0]? = some (Cond.not (Cond.eq (jv_tm j) (jv_tm 17))) := by decide +kernel
theorem jv_fl6_18 : ∀ j, j < 20 → 18 ≠ j → jv_flat[(jv_fp.getD 18 []).getD j 0]? = some (Cond.not (Cond.eq (jv_tm 18) (jv_tm j))) ∨ jv_flat[(jv_fp.getD 18 []).getD j 0]? = some (Cond.not (Cond.eq (jv_tm j) (jv_tm 18))) := by decide +kernel
theorem jv_fl6_19 : ∀ j, j < 20 → 19 ≠ j → jv_flat[(jv_fp.getD 19 []).getD j 0]? = some (Cond.not (Cond.eq (jv_tm 19) (jv_tm j))) ∨ jv_flat[(jv_fp.getD 19 []).getD j 0]? = some (Cond.not (Cond.eq (jv_tm j) (jv_tm 19))) := by decide +kernel
theorem jv_fl6 : ∀ i, i < 20 → ∀ j, j < 20 → i ≠ j → Cond.not (Cond.eq (jv_tm i) (jv_tm j)) ∈ jv_flat ∨ Cond.not (Cond.eq (jv_tm j) (jv_tm i)) ∈ jv_flat := by
  intro i hi j hj hij
  match i, hi, hij with
  | 0, _, hij => exact (jv_fl6_0 j hj hij).imp List.mem_of_getElem? List.mem_of_getElem?
  | 1, _, hij => exact (jv_fl6_1 j hj hij).imp List.mem_of_getElem? List.mem_of_getElem?
  | 2, _, hij => exact (jv_fl6_2 j hj hij).imp List.mem_of_getElem? List.mem_of_getElem?
  | 3, _, hij => exact (jv_fl6_3 j hj hij).imp List.mem_of_getElem? List.mem_of_getElem?
  | 4, _, hij => exact (jv_fl6_4 j hj hij).imp List.mem_of_getElem? List.mem_of_getElem?
  | 5, _, hij => exact (jv_fl6_5 j hj hij).imp List.mem_of_getElem? List.mem_of_getElem?
  | 6, _, hij => exact (jv_fl6_6 j hj hij).imp List.mem_of_getElem? List.mem_of_getElem?
  | 7, _, hij => exact (jv_fl6_7 j hj hij).imp List.mem_of_getElem? List.mem_of_getElem?
  | 8, _, hij => exact (jv_fl6_8 j hj hij).imp List.mem_of_getElem? List.mem_of_getElem?
  | 9, _, hij => exact (jv_fl6_9 j hj hij).imp List.mem_of_getElem? List.mem_of_getElem?
  | 10, _, hij => exact (jv_fl6_10 j hj hij).imp List.mem_of_getElem? List.mem_of_getElem?
  | 11, _, hij => exact (jv_fl6_11 j hj hij).imp List.mem_of_getElem? List.mem_of_getElem?
  | 12, _, hij => exact (jv_fl6_12 j hj hij).imp List.mem_of_getElem? List.mem_of_getElem?
  | 13, _, hij => exact (jv_fl6_13 j hj hij).imp List.mem_of_getElem? List.mem_of_getElem?
  | 14, _, hij => exact (jv_fl6_14 j hj hij).imp List.mem_of_getElem? List.mem_of_getElem?
  | 15, _, hij => exact (jv_fl6_15 j hj hij).imp List.mem_of_getElem? List.mem_of_getElem?
  | 16, _, hij => exact (jv_fl6_16 j hj hij).imp List.mem_of_getElem? List.mem_of_getElem?
  | 17, _, hij => exact (jv_fl6_17 j hj hij).imp List.mem_of_getElem? List.mem_of_getElem?
  | 18, _, hij => exact (jv_fl6_18 j hj hij).imp List.mem_of_getElem? List.mem_of_getElem?
  | 19, _, hij => exact (jv_fl6_19 j hj hij).imp List.mem_of_getElem? List.mem_of_getElem?
  | i + 20, hi, _ => omega
theorem jv_fl7 : Cond.eq (.static "java/lang/String" "COMPACT_STRINGS" "Z") (.int 1) ∈ jv_flat := by decide +kernel
theorem jv_fl8 : Cond.isRef (.static "jdk/internal/util/Preconditions" "SIOOBE_FORMATTER" "Ljava/util/function/BiFunction;") ∈ jv_flat := by decide +kernel
theorem jv_tb1 : Cond.laysStatic "java/lang/String" "COMPACT_STRINGS" "Z" ∈ lw_tbl := by decide +kernel
theorem jv_tb2 : Cond.laysStatic "jdk/internal/util/Preconditions" "SIOOBE_FORMATTER" "Ljava/util/function/BiFunction;" ∈ lw_tbl := by decide +kernel
theorem jv_tb3 : ∀ i, i < 20 → Cond.stringRef (jv_str.getD i ("", 0, "")).1 (jv_str.getD i ("", 0, "")).2.1 (jv_str.getD i ("", 0, "")).2.2 ∈ lw_tbl := by decide +kernel
theorem jv_lens_lt : ∀ i, i < 20 → jv_lens.getD i 0 < 2 ^ 31 := by decide +kernel
set_option maxHeartbeats 4000000 in
set_option maxRecDepth 100000 in
theorem jv_begin {s : State} {b L : Nat} {xs : Nat → Int32} (hts : ∀ w ∈ lw_tbl, w.before #[Value.ref b] s = true) (hX : va_X b L xs s s.heap) (hbl : b < s.heap.size) (hgv : (Jvm.Cond.and given_1 narrow_1).before #[Value.ref b] s = true) :
    ∃ (D : va_G) (dA : Nat → ClassId) (adK adV : Nat → Nat), jv_Kn D dA (s.heap.size, b, adK) adV L xs s := by
  have hg : ∀ w ∈ jv_flat, w.before #[Value.ref b] s = true := flat_of_before _ hgv
  have hT : ∀ w ∈ jv_T, w.before #[Value.ref b] s = true := fun w hw => hts w (List.mem_filter.mp hw).1
  have hA : ∀ a : Nat, a < s.heap.size → ¬ (fun q : Nat => s.heap.size ≤ q) a := fun a h => Nat.not_le.mpr h
  have kn : ∀ c : Nat, c < 9 → ∃ (cC : ClassId) (iS : Nat → Nat), u_Kn s (jv_own c) (jv_fT c) (jv_fn c) cC iS := fun c h => u_known (n := jv_fn c) hT (jv_ws_in c h) (hT _ (jv_in_ok (jv_inst_ok c h).1))
  obtain ⟨c0, f0, -⟩ := kn 0 (by decide)
  have hcl : ∀ c : Nat, ∃ q : ClassId × (Nat → Nat), c < 9 → u_Kn s (jv_own c) (jv_fT c) (jv_fn c) q.1 q.2 := by
    intro c
    by_cases h : c < 9
    · obtain ⟨cC, iS, hk⟩ := kn c h
      exact ⟨(cC, iS), fun _ => hk⟩
    · exact ⟨(c0, f0), fun q => absurd q h⟩
  obtain ⟨F, hF⟩ := Classical.axiomOfChoice hcl
  obtain ⟨cI, kI, coI, i1, i2, i3⟩ := Cond.arrayClass_spec (args := #[Value.ref b]) (first := s) (o := none) (s := s) (idx := []) (hT _ (jv_in_ok jv_arrI))
  obtain ⟨cZ, kZ, coZ, z1, z2, z3⟩ := Cond.arrayClass_spec (args := #[Value.ref b]) (first := s) (o := none) (s := s) (idx := []) (hT _ (jv_in_ok jv_arrZ))
  obtain ⟨coT, cT, kT, t1, t2, t3, t4, t5⟩ := Cond.arrayOver_spec (args := #[Value.ref b]) (first := s) (o := none) (s := s) (idx := []) (hts _ jv_arrT6)
  obtain ⟨coR, cR, kR, r1, r2, r3, r4, r5⟩ := Cond.arrayOver_spec (args := #[Value.ref b]) (first := s) (o := none) (s := s) (idx := []) (hts _ jv_arrT5)
  obtain ⟨adK, adV, hS, hev⟩ := vk_Sof (args := #[Value.ref b]) (s := s) (N := 20) (tm := jv_tm) (len := jv_lens) (byt := jv_byt) (A := fun q => s.heap.size ≤ q) jv_lens_lt (fun i hi => hg _ (jv_fl1 i hi)) (fun i hi => hg _ (jv_fl2 i hi)) (fun i hi => hg _ (jv_fl3 i hi)) (fun i hi => hg _ (jv_fl4 i hi)) (fun i hi j hj => hg _ (jv_fl5 i hi j hj)) (fun i j hi hj hij => (jv_fl6 i hi j hj hij).imp (hg _) (hg _)) hA
  refine ⟨(fun c => (F c).1, fun c => (F c).2), fun k => match k with
    | 0 => cI
    | 1 => cZ
    | 2 => cT
    | _ => cR, adK, adV, ⟨?_, ?_⟩, hX, hbl, Nat.le_refl _, hS, ?_, va_AO.of (hts _ jv_arrT6), va_AO.of (hts _ jv_arrT5), ?_, ?_, ?_⟩
  · intro c q hq
    have hc9 : c < 9 := (List.getElem?_eq_some_iff.mp hq).1
    have hq2 := (jv_cls_ok c hc9).symm.trans hq
    cases hq2
    exact hF c hc9
  · intro k q hq
    match k, hq with
    | 0, hq => cases hq; exact ⟨fun n z => ⟨fun k h => (by cases h), kI, i2, coI, i3⟩, i1⟩
    | 1, hq => cases hq; exact ⟨fun n z => ⟨fun k h => (by cases h), kZ, z2, coZ, z3⟩, z1⟩
    | 2, hq => cases hq; exact ⟨fun n z => ⟨fun k h => (by cases h), kT, t3, coT, t4⟩, kT, coT, t3, t4, t1, t5⟩
    | 3, hq => cases hq; exact ⟨fun n z => ⟨fun k h => (by cases h), kR, r3, coR, r4⟩, kR, coR, r3, r4, r1, r5⟩
    | k + 4, hq => simp at hq
  · intro i q hq
    have hi : i < 20 := (List.getElem?_eq_some_iff.mp hq).1
    have hd : jv_str.getD i ("", 0, "") = q := by rw [List.getD_eq_getElem?_getD, hq]; rfl
    have h1 := hts _ (jv_tb3 i hi)
    have h2 := hev i hi
    unfold jv_tm at h2
    rw [hd] at h1 h2
    exact vk_R.of h1 h2
  · intro w hw
    have hw2 := hts w (jv_nests_in w hw)
    simp only [jv_nests, List.mem_cons, List.not_mem_nil, or_false] at hw
    rcases hw with rfl | rfl | rfl | rfl | rfl <;> exact va_Nw.of rfl hw2
  · exact va_Zof (hts _ jv_tb1) (hT _ jw_ini0) (va_eqi (hg _ jv_fl7)) hA
  · obtain ⟨v, hv, hr⟩ := Cond.isRef_spec (args := #[Value.ref b]) (first := s) (o := none) (s := s) (idx := []) (hg _ jv_fl8)
    refine ⟨v, ?_, va_Zof (hts _ jv_tb2) (hT _ jw_ini3) hv hA⟩
    cases v <;> first | exact Or.inl rfl | exact Or.inr ⟨_, rfl⟩ | cases hr
/-- the J machine's start -/
def jv_L0 : List (Option Value) := [some (.ref 1000000), none, none, none, none, none, none, none]
def jv_h0 (L : Nat) (xs : Nat → Int32) : jv_H := (fun _ => .inl (9, L, xs), 0, 0)
theorem jv_fix0 (L : Nat) (xs : Nat → Int32) : jv_fix L xs (jv_h0 L xs) := rfl
/-- the law's run in the J machine answers 1, within the room -/
def jv_law (N : Nat) : Prop := ∀ (L : Nat) (xs : Nat → Int32), L ≤ N → ∃ (n : Nat) (h' : jv_H), jv_run n 271 0 jv_L0 [] (jv_h0 L xs) = some (some (.int 1), h') ∧ h'.2.1 ≤ 600000 ∧ h'.2.2 ≤ 7302250
end
