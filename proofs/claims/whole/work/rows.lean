section
-- ===== PART A: goes FIRST, ahead of the names: the tables' words, and 'selects' of the private methods out of them =====
/-- a private method of a class that the tables say can be made, by its rows of tables_1 -/
def lw_okq (q : MethodName × Nat) : Prop := (q.1.cls ≠ "java/lang/invoke/MethodHandle" ∧ q.1.cls ≠ "java/lang/invoke/VarHandle") ∧ Cond.instantiable q.1.cls q.2 ∈ tables_1 ∧ Cond.privateMethod q.1 ∈ tables_1 ∧ Cond.instanceMethod q.1 ∈ tables_1
theorem lw_p0 : lw_okq (⟨"FloodingNet$Pieces", "costCount", "(I)I"⟩, 4) := ⟨⟨by decide +kernel, by decide +kernel⟩, List.mem_of_getElem? (i := 20) (by decide +kernel), List.mem_of_getElem? (i := 98) (by decide +kernel), List.mem_of_getElem? (i := 99) (by decide +kernel)⟩
theorem lw_p1 : lw_okq (⟨"FloodingNet$Pieces", "costFor", "(II)I"⟩, 4) := ⟨⟨by decide +kernel, by decide +kernel⟩, List.mem_of_getElem? (i := 20) (by decide +kernel), List.mem_of_getElem? (i := 102) (by decide +kernel), List.mem_of_getElem? (i := 103) (by decide +kernel)⟩
theorem lw_p2 : lw_okq (⟨"FloodingNet", "measureWays", "(II)V"⟩, 13) := ⟨⟨by decide +kernel, by decide +kernel⟩, List.mem_of_getElem? (i := 12) (by decide +kernel), List.mem_of_getElem? (i := 115) (by decide +kernel), List.mem_of_getElem? (i := 116) (by decide +kernel)⟩
theorem lw_p3 : lw_okq (⟨"FloodingNet", "stepCost", "(III)I"⟩, 13) := ⟨⟨by decide +kernel, by decide +kernel⟩, List.mem_of_getElem? (i := 12) (by decide +kernel), List.mem_of_getElem? (i := 119) (by decide +kernel), List.mem_of_getElem? (i := 120) (by decide +kernel)⟩
theorem lw_p4 : lw_okq (⟨"FloodingNet", "nextHop", "(II)I"⟩, 13) := ⟨⟨by decide +kernel, by decide +kernel⟩, List.mem_of_getElem? (i := 12) (by decide +kernel), List.mem_of_getElem? (i := 127) (by decide +kernel), List.mem_of_getElem? (i := 128) (by decide +kernel)⟩
theorem lw_p5 : lw_okq (⟨"FloodingNet", "agreeOn", "(I)Z"⟩, 13) := ⟨⟨by decide +kernel, by decide +kernel⟩, List.mem_of_getElem? (i := 12) (by decide +kernel), List.mem_of_getElem? (i := 139) (by decide +kernel), List.mem_of_getElem? (i := 140) (by decide +kernel)⟩
theorem lw_p6 : lw_okq (⟨"FloodingNet", "joinedWith", "(I)I"⟩, 13) := ⟨⟨by decide +kernel, by decide +kernel⟩, List.mem_of_getElem? (i := 12) (by decide +kernel), List.mem_of_getElem? (i := 143) (by decide +kernel), List.mem_of_getElem? (i := 144) (by decide +kernel)⟩
theorem lw_p7 : lw_okq (⟨"FloodingNet", "neighbours", "(I)I"⟩, 13) := ⟨⟨by decide +kernel, by decide +kernel⟩, List.mem_of_getElem? (i := 12) (by decide +kernel), List.mem_of_getElem? (i := 147) (by decide +kernel), List.mem_of_getElem? (i := 148) (by decide +kernel)⟩
theorem lw_p8 : lw_okq (⟨"FloodingNet", "carries", "(II)Z"⟩, 13) := ⟨⟨by decide +kernel, by decide +kernel⟩, List.mem_of_getElem? (i := 12) (by decide +kernel), List.mem_of_getElem? (i := 151) (by decide +kernel), List.mem_of_getElem? (i := 152) (by decide +kernel)⟩
theorem lw_p9 : lw_okq (⟨"java/lang/Throwable", "fillInStackTrace", "(I)Ljava/lang/Throwable;"⟩, 6) := ⟨⟨by decide +kernel, by decide +kernel⟩, List.mem_of_getElem? (i := 204) (by decide +kernel), List.mem_of_getElem? (i := 202) (by decide +kernel), List.mem_of_getElem? (i := 203) (by decide +kernel)⟩
theorem lw_p10 : lw_okq (⟨"FloodingNet", "hasLink", "(II)Z"⟩, 13) := ⟨⟨by decide +kernel, by decide +kernel⟩, List.mem_of_getElem? (i := 12) (by decide +kernel), List.mem_of_getElem? (i := 235) (by decide +kernel), List.mem_of_getElem? (i := 236) (by decide +kernel)⟩
theorem lw_p11 : lw_okq (⟨"FloodingNet", "putLink", "(IIII)V"⟩, 13) := ⟨⟨by decide +kernel, by decide +kernel⟩, List.mem_of_getElem? (i := 12) (by decide +kernel), List.mem_of_getElem? (i := 255) (by decide +kernel), List.mem_of_getElem? (i := 256) (by decide +kernel)⟩
theorem lw_p12 : lw_okq (⟨"FloodingNet", "bringUp", "(II)V"⟩, 13) := ⟨⟨by decide +kernel, by decide +kernel⟩, List.mem_of_getElem? (i := 12) (by decide +kernel), List.mem_of_getElem? (i := 259) (by decide +kernel), List.mem_of_getElem? (i := 260) (by decide +kernel)⟩
theorem lw_p13 : lw_okq (⟨"FloodingNet", "tell", "(I)V"⟩, 13) := ⟨⟨by decide +kernel, by decide +kernel⟩, List.mem_of_getElem? (i := 12) (by decide +kernel), List.mem_of_getElem? (i := 269) (by decide +kernel), List.mem_of_getElem? (i := 270) (by decide +kernel)⟩
theorem lw_p14 : lw_okq (⟨"FloodingNet", "costsNow", "(I)J"⟩, 13) := ⟨⟨by decide +kernel, by decide +kernel⟩, List.mem_of_getElem? (i := 12) (by decide +kernel), List.mem_of_getElem? (i := 273) (by decide +kernel), List.mem_of_getElem? (i := 274) (by decide +kernel)⟩
theorem lw_p15 : lw_okq (⟨"FloodingNet$Pieces", "write", "(IIIJ)V"⟩, 4) := ⟨⟨by decide +kernel, by decide +kernel⟩, List.mem_of_getElem? (i := 20) (by decide +kernel), List.mem_of_getElem? (i := 280) (by decide +kernel), List.mem_of_getElem? (i := 281) (by decide +kernel)⟩
def lw_privs_1 : List (MethodName × Nat) := [(⟨"FloodingNet$Pieces", "costCount", "(I)I"⟩, 4), (⟨"FloodingNet$Pieces", "costFor", "(II)I"⟩, 4), (⟨"FloodingNet", "measureWays", "(II)V"⟩, 13), (⟨"FloodingNet", "stepCost", "(III)I"⟩, 13), (⟨"FloodingNet", "nextHop", "(II)I"⟩, 13), (⟨"FloodingNet", "agreeOn", "(I)Z"⟩, 13), (⟨"FloodingNet", "joinedWith", "(I)I"⟩, 13), (⟨"FloodingNet", "neighbours", "(I)I"⟩, 13), (⟨"FloodingNet", "carries", "(II)Z"⟩, 13), (⟨"java/lang/Throwable", "fillInStackTrace", "(I)Ljava/lang/Throwable;"⟩, 6), (⟨"FloodingNet", "hasLink", "(II)Z"⟩, 13), (⟨"FloodingNet", "putLink", "(IIII)V"⟩, 13), (⟨"FloodingNet", "bringUp", "(II)V"⟩, 13), (⟨"FloodingNet", "tell", "(I)V"⟩, 13), (⟨"FloodingNet", "costsNow", "(I)J"⟩, 13), (⟨"FloodingNet$Pieces", "write", "(IIIJ)V"⟩, 4)]
theorem lw_r1 : ∀ q ∈ lw_privs_1, lw_okq q := List.forall_mem_cons.mpr ⟨lw_p0, List.forall_mem_cons.mpr ⟨lw_p1, List.forall_mem_cons.mpr ⟨lw_p2, List.forall_mem_cons.mpr ⟨lw_p3, List.forall_mem_cons.mpr ⟨lw_p4, List.forall_mem_cons.mpr ⟨lw_p5, List.forall_mem_cons.mpr ⟨lw_p6, List.forall_mem_cons.mpr ⟨lw_p7, List.forall_mem_cons.mpr ⟨lw_p8, List.forall_mem_cons.mpr ⟨lw_p9, List.forall_mem_cons.mpr ⟨lw_p10, List.forall_mem_cons.mpr ⟨lw_p11, List.forall_mem_cons.mpr ⟨lw_p12, List.forall_mem_cons.mpr ⟨lw_p13, List.forall_mem_cons.mpr ⟨lw_p14, List.forall_mem_cons.mpr ⟨lw_p15, fun _ h => absurd h List.not_mem_nil⟩⟩⟩⟩⟩⟩⟩⟩⟩⟩⟩⟩⟩⟩⟩⟩
theorem lw_p16 : lw_okq (⟨"FloodingNet", "spread", "(III)V"⟩, 13) := ⟨⟨by decide +kernel, by decide +kernel⟩, List.mem_of_getElem? (i := 12) (by decide +kernel), List.mem_of_getElem? (i := 284) (by decide +kernel), List.mem_of_getElem? (i := 285) (by decide +kernel)⟩
theorem lw_p17 : lw_okq (⟨"FloodingNet", "sendKnown", "(III)V"⟩, 13) := ⟨⟨by decide +kernel, by decide +kernel⟩, List.mem_of_getElem? (i := 12) (by decide +kernel), List.mem_of_getElem? (i := 288) (by decide +kernel), List.mem_of_getElem? (i := 289) (by decide +kernel)⟩
theorem lw_p18 : lw_okq (⟨"FloodingNet", "sendAllKnown", "(II)V"⟩, 13) := ⟨⟨by decide +kernel, by decide +kernel⟩, List.mem_of_getElem? (i := 12) (by decide +kernel), List.mem_of_getElem? (i := 295) (by decide +kernel), List.mem_of_getElem? (i := 296) (by decide +kernel)⟩
theorem lw_p19 : lw_okq (⟨"FloodingNet", "takeDown", "(II)V"⟩, 13) := ⟨⟨by decide +kernel, by decide +kernel⟩, List.mem_of_getElem? (i := 12) (by decide +kernel), List.mem_of_getElem? (i := 307) (by decide +kernel), List.mem_of_getElem? (i := 308) (by decide +kernel)⟩
theorem lw_p20 : lw_okq (⟨"FloodingNet", "emptyLink", "(II)V"⟩, 13) := ⟨⟨by decide +kernel, by decide +kernel⟩, List.mem_of_getElem? (i := 12) (by decide +kernel), List.mem_of_getElem? (i := 311) (by decide +kernel), List.mem_of_getElem? (i := 312) (by decide +kernel)⟩
theorem lw_p21 : lw_okq (⟨"FloodingNet$Pieces", "clear", "(I)V"⟩, 4) := ⟨⟨by decide +kernel, by decide +kernel⟩, List.mem_of_getElem? (i := 20) (by decide +kernel), List.mem_of_getElem? (i := 315) (by decide +kernel), List.mem_of_getElem? (i := 316) (by decide +kernel)⟩
theorem lw_p22 : lw_okq (⟨"FloodingNet$Packet", "isOn", "(II)Z"⟩, 8) := ⟨⟨by decide +kernel, by decide +kernel⟩, List.mem_of_getElem? (i := 321) (by decide +kernel), List.mem_of_getElem? (i := 319) (by decide +kernel), List.mem_of_getElem? (i := 320) (by decide +kernel)⟩
theorem lw_p23 : lw_okq (⟨"FloodingNet", "tellNeighbours", "(I)V"⟩, 13) := ⟨⟨by decide +kernel, by decide +kernel⟩, List.mem_of_getElem? (i := 12) (by decide +kernel), List.mem_of_getElem? (i := 339) (by decide +kernel), List.mem_of_getElem? (i := 340) (by decide +kernel)⟩
theorem lw_p24 : lw_okq (⟨"FloodingNet$Pieces", "clearBornUntil", "(I)V"⟩, 4) := ⟨⟨by decide +kernel, by decide +kernel⟩, List.mem_of_getElem? (i := 20) (by decide +kernel), List.mem_of_getElem? (i := 358) (by decide +kernel), List.mem_of_getElem? (i := 359) (by decide +kernel)⟩
theorem lw_p25 : lw_okq (⟨"FloodingNet", "tellAgain", "()V"⟩, 13) := ⟨⟨by decide +kernel, by decide +kernel⟩, List.mem_of_getElem? (i := 12) (by decide +kernel), List.mem_of_getElem? (i := 363) (by decide +kernel), List.mem_of_getElem? (i := 364) (by decide +kernel)⟩
theorem lw_p26 : lw_okq (⟨"FloodingNet", "receiveArrivedNews", "()V"⟩, 13) := ⟨⟨by decide +kernel, by decide +kernel⟩, List.mem_of_getElem? (i := 12) (by decide +kernel), List.mem_of_getElem? (i := 367) (by decide +kernel), List.mem_of_getElem? (i := 368) (by decide +kernel)⟩
theorem lw_p27 : lw_okq (⟨"FloodingNet", "receive", "(I)V"⟩, 13) := ⟨⟨by decide +kernel, by decide +kernel⟩, List.mem_of_getElem? (i := 12) (by decide +kernel), List.mem_of_getElem? (i := 371) (by decide +kernel), List.mem_of_getElem? (i := 372) (by decide +kernel)⟩
theorem lw_p28 : lw_okq (⟨"FloodingNet", "movePackets", "()V"⟩, 13) := ⟨⟨by decide +kernel, by decide +kernel⟩, List.mem_of_getElem? (i := 12) (by decide +kernel), List.mem_of_getElem? (i := 375) (by decide +kernel), List.mem_of_getElem? (i := 376) (by decide +kernel)⟩
theorem lw_p29 : lw_okq (⟨"FloodingNet", "handle", "(LFloodingNet$Packet;I)V"⟩, 13) := ⟨⟨by decide +kernel, by decide +kernel⟩, List.mem_of_getElem? (i := 12) (by decide +kernel), List.mem_of_getElem? (i := 379) (by decide +kernel), List.mem_of_getElem? (i := 380) (by decide +kernel)⟩
theorem lw_p30 : lw_okq (⟨"FloodingNet$Packet", "visit", "(I)V"⟩, 8) := ⟨⟨by decide +kernel, by decide +kernel⟩, List.mem_of_getElem? (i := 321) (by decide +kernel), List.mem_of_getElem? (i := 383) (by decide +kernel), List.mem_of_getElem? (i := 384) (by decide +kernel)⟩
theorem lw_p31 : lw_okq (⟨"FloodingNetModel", "goes", "(ZZ)Z"⟩, 27) := ⟨⟨by decide +kernel, by decide +kernel⟩, List.mem_of_getElem? (i := 431) (by decide +kernel), List.mem_of_getElem? (i := 533) (by decide +kernel), List.mem_of_getElem? (i := 534) (by decide +kernel)⟩
def lw_privs_2 : List (MethodName × Nat) := [(⟨"FloodingNet", "spread", "(III)V"⟩, 13), (⟨"FloodingNet", "sendKnown", "(III)V"⟩, 13), (⟨"FloodingNet", "sendAllKnown", "(II)V"⟩, 13), (⟨"FloodingNet", "takeDown", "(II)V"⟩, 13), (⟨"FloodingNet", "emptyLink", "(II)V"⟩, 13), (⟨"FloodingNet$Pieces", "clear", "(I)V"⟩, 4), (⟨"FloodingNet$Packet", "isOn", "(II)Z"⟩, 8), (⟨"FloodingNet", "tellNeighbours", "(I)V"⟩, 13), (⟨"FloodingNet$Pieces", "clearBornUntil", "(I)V"⟩, 4), (⟨"FloodingNet", "tellAgain", "()V"⟩, 13), (⟨"FloodingNet", "receiveArrivedNews", "()V"⟩, 13), (⟨"FloodingNet", "receive", "(I)V"⟩, 13), (⟨"FloodingNet", "movePackets", "()V"⟩, 13), (⟨"FloodingNet", "handle", "(LFloodingNet$Packet;I)V"⟩, 13), (⟨"FloodingNet$Packet", "visit", "(I)V"⟩, 8), (⟨"FloodingNetModel", "goes", "(ZZ)Z"⟩, 27)]
theorem lw_r2 : ∀ q ∈ lw_privs_2, lw_okq q := List.forall_mem_cons.mpr ⟨lw_p16, List.forall_mem_cons.mpr ⟨lw_p17, List.forall_mem_cons.mpr ⟨lw_p18, List.forall_mem_cons.mpr ⟨lw_p19, List.forall_mem_cons.mpr ⟨lw_p20, List.forall_mem_cons.mpr ⟨lw_p21, List.forall_mem_cons.mpr ⟨lw_p22, List.forall_mem_cons.mpr ⟨lw_p23, List.forall_mem_cons.mpr ⟨lw_p24, List.forall_mem_cons.mpr ⟨lw_p25, List.forall_mem_cons.mpr ⟨lw_p26, List.forall_mem_cons.mpr ⟨lw_p27, List.forall_mem_cons.mpr ⟨lw_p28, List.forall_mem_cons.mpr ⟨lw_p29, List.forall_mem_cons.mpr ⟨lw_p30, List.forall_mem_cons.mpr ⟨lw_p31, fun _ h => absurd h List.not_mem_nil⟩⟩⟩⟩⟩⟩⟩⟩⟩⟩⟩⟩⟩⟩⟩⟩
theorem lw_p32 : lw_okq (⟨"FloodingNetModel", "comeUp", "(II)V"⟩, 27) := ⟨⟨by decide +kernel, by decide +kernel⟩, List.mem_of_getElem? (i := 431) (by decide +kernel), List.mem_of_getElem? (i := 537) (by decide +kernel), List.mem_of_getElem? (i := 538) (by decide +kernel)⟩
theorem lw_p33 : lw_okq (⟨"FloodingNetModel", "tell", "(I)V"⟩, 27) := ⟨⟨by decide +kernel, by decide +kernel⟩, List.mem_of_getElem? (i := 431) (by decide +kernel), List.mem_of_getElem? (i := 541) (by decide +kernel), List.mem_of_getElem? (i := 542) (by decide +kernel)⟩
theorem lw_p34 : lw_okq (⟨"FloodingNetModel", "carries", "(II)Z"⟩, 27) := ⟨⟨by decide +kernel, by decide +kernel⟩, List.mem_of_getElem? (i := 431) (by decide +kernel), List.mem_of_getElem? (i := 545) (by decide +kernel), List.mem_of_getElem? (i := 546) (by decide +kernel)⟩
theorem lw_p35 : lw_okq (⟨"FloodingNetModel", "pass", "(III)V"⟩, 27) := ⟨⟨by decide +kernel, by decide +kernel⟩, List.mem_of_getElem? (i := 431) (by decide +kernel), List.mem_of_getElem? (i := 549) (by decide +kernel), List.mem_of_getElem? (i := 550) (by decide +kernel)⟩
theorem lw_p36 : lw_okq (⟨"FloodingNetModel", "sendAll", "(II)V"⟩, 27) := ⟨⟨by decide +kernel, by decide +kernel⟩, List.mem_of_getElem? (i := 431) (by decide +kernel), List.mem_of_getElem? (i := 553) (by decide +kernel), List.mem_of_getElem? (i := 554) (by decide +kernel)⟩
theorem lw_p37 : lw_okq (⟨"FloodingNetModel", "haveLink", "(II)Z"⟩, 27) := ⟨⟨by decide +kernel, by decide +kernel⟩, List.mem_of_getElem? (i := 431) (by decide +kernel), List.mem_of_getElem? (i := 561) (by decide +kernel), List.mem_of_getElem? (i := 562) (by decide +kernel)⟩
theorem lw_p38 : lw_okq (⟨"FloodingNetModel", "cut", "(II)V"⟩, 27) := ⟨⟨by decide +kernel, by decide +kernel⟩, List.mem_of_getElem? (i := 431) (by decide +kernel), List.mem_of_getElem? (i := 565) (by decide +kernel), List.mem_of_getElem? (i := 566) (by decide +kernel)⟩
theorem lw_p39 : lw_okq (⟨"FloodingNetModel", "forget", "(I)V"⟩, 27) := ⟨⟨by decide +kernel, by decide +kernel⟩, List.mem_of_getElem? (i := 431) (by decide +kernel), List.mem_of_getElem? (i := 577) (by decide +kernel), List.mem_of_getElem? (i := 578) (by decide +kernel)⟩
theorem lw_p40 : lw_okq (⟨"FloodingNetModel", "oneTick", "()V"⟩, 27) := ⟨⟨by decide +kernel, by decide +kernel⟩, List.mem_of_getElem? (i := 431) (by decide +kernel), List.mem_of_getElem? (i := 589) (by decide +kernel), List.mem_of_getElem? (i := 590) (by decide +kernel)⟩
theorem lw_p41 : lw_okq (⟨"FloodingNetModel", "grow", "()V"⟩, 27) := ⟨⟨by decide +kernel, by decide +kernel⟩, List.mem_of_getElem? (i := 431) (by decide +kernel), List.mem_of_getElem? (i := 593) (by decide +kernel), List.mem_of_getElem? (i := 594) (by decide +kernel)⟩
theorem lw_p42 : lw_okq (⟨"FloodingNetModel", "receive", "(III)V"⟩, 27) := ⟨⟨by decide +kernel, by decide +kernel⟩, List.mem_of_getElem? (i := 431) (by decide +kernel), List.mem_of_getElem? (i := 597) (by decide +kernel), List.mem_of_getElem? (i := 598) (by decide +kernel)⟩
theorem lw_p43 : lw_okq (⟨"FloodingNetModel", "isAt", "(II)V"⟩, 27) := ⟨⟨by decide +kernel, by decide +kernel⟩, List.mem_of_getElem? (i := 431) (by decide +kernel), List.mem_of_getElem? (i := 601) (by decide +kernel), List.mem_of_getElem? (i := 602) (by decide +kernel)⟩
theorem lw_p44 : lw_okq (⟨"FloodingNetModel", "nextOf", "(II)I"⟩, 27) := ⟨⟨by decide +kernel, by decide +kernel⟩, List.mem_of_getElem? (i := 431) (by decide +kernel), List.mem_of_getElem? (i := 605) (by decide +kernel), List.mem_of_getElem? (i := 606) (by decide +kernel)⟩
theorem lw_p45 : lw_okq (⟨"FloodingNetModel", "measure", "(II)V"⟩, 27) := ⟨⟨by decide +kernel, by decide +kernel⟩, List.mem_of_getElem? (i := 431) (by decide +kernel), List.mem_of_getElem? (i := 609) (by decide +kernel), List.mem_of_getElem? (i := 610) (by decide +kernel)⟩
theorem lw_p46 : lw_okq (⟨"FloodingNetModel", "step", "(III)I"⟩, 27) := ⟨⟨by decide +kernel, by decide +kernel⟩, List.mem_of_getElem? (i := 431) (by decide +kernel), List.mem_of_getElem? (i := 613) (by decide +kernel), List.mem_of_getElem? (i := 614) (by decide +kernel)⟩
def lw_privs_3 : List (MethodName × Nat) := [(⟨"FloodingNetModel", "comeUp", "(II)V"⟩, 27), (⟨"FloodingNetModel", "tell", "(I)V"⟩, 27), (⟨"FloodingNetModel", "carries", "(II)Z"⟩, 27), (⟨"FloodingNetModel", "pass", "(III)V"⟩, 27), (⟨"FloodingNetModel", "sendAll", "(II)V"⟩, 27), (⟨"FloodingNetModel", "haveLink", "(II)Z"⟩, 27), (⟨"FloodingNetModel", "cut", "(II)V"⟩, 27), (⟨"FloodingNetModel", "forget", "(I)V"⟩, 27), (⟨"FloodingNetModel", "oneTick", "()V"⟩, 27), (⟨"FloodingNetModel", "grow", "()V"⟩, 27), (⟨"FloodingNetModel", "receive", "(III)V"⟩, 27), (⟨"FloodingNetModel", "isAt", "(II)V"⟩, 27), (⟨"FloodingNetModel", "nextOf", "(II)I"⟩, 27), (⟨"FloodingNetModel", "measure", "(II)V"⟩, 27), (⟨"FloodingNetModel", "step", "(III)I"⟩, 27)]
theorem lw_r3 : ∀ q ∈ lw_privs_3, lw_okq q := List.forall_mem_cons.mpr ⟨lw_p32, List.forall_mem_cons.mpr ⟨lw_p33, List.forall_mem_cons.mpr ⟨lw_p34, List.forall_mem_cons.mpr ⟨lw_p35, List.forall_mem_cons.mpr ⟨lw_p36, List.forall_mem_cons.mpr ⟨lw_p37, List.forall_mem_cons.mpr ⟨lw_p38, List.forall_mem_cons.mpr ⟨lw_p39, List.forall_mem_cons.mpr ⟨lw_p40, List.forall_mem_cons.mpr ⟨lw_p41, List.forall_mem_cons.mpr ⟨lw_p42, List.forall_mem_cons.mpr ⟨lw_p43, List.forall_mem_cons.mpr ⟨lw_p44, List.forall_mem_cons.mpr ⟨lw_p45, List.forall_mem_cons.mpr ⟨lw_p46, fun _ h => absurd h List.not_mem_nil⟩⟩⟩⟩⟩⟩⟩⟩⟩⟩⟩⟩⟩⟩⟩
def lw_privs : List (MethodName × Nat) := lw_privs_1 ++ (lw_privs_2 ++ (lw_privs_3))
def lw_tbl : List Cond := k2_sels lw_privs ++ tables_1
theorem lw_privs_ok : ∀ q ∈ lw_privs, lw_okq q := by
  show ∀ q ∈ lw_privs_1 ++ (lw_privs_2 ++ (lw_privs_3)), lw_okq q
  exact List.forall_mem_append.mpr ⟨lw_r1, List.forall_mem_append.mpr ⟨lw_r2, lw_r3⟩⟩
end
section
/-! ===== BEGIN printed: names, fields, word lists, decode rows ===== -/
def RX0 : String := "FloodingNet$Packet"
def TX0 : u_T := fun k => match k with
  | 0 => ("FloodingNet$Packet", "goal", "I", true)
  | 1 => ("FloodingNet$Packet", "trace", "[I", true)
  | 2 => ("FloodingNet$Packet", "traceLength", "I", false)
  | 3 => ("FloodingNet$Packet", "life", "I", false)
  | 4 => ("FloodingNet$Packet", "state", "I", false)
  | 5 => ("FloodingNet$Packet", "last", "I", false)
  | 6 => ("FloodingNet$Packet", "towards", "I", false)
  | _ => ("FloodingNet$Packet", "arrival", "I", false)
def tyX0 : Nat → FieldType := fun k => match k with
  | 0 => .int
  | 1 => .array .int
  | 2 => .int
  | 3 => .int
  | 4 => .int
  | 5 => .int
  | 6 => .int
  | _ => .int
abbrev wsX00 : List Cond := u_ws RX0 TX0 8
theorem nmX0 : ∀ a, a < 8 → ∀ b, b < 8 → a ≠ b → (TX0 a).2.1 ≠ (TX0 b).2.1 := by decide +kernel
theorem tyX0_ok : ∀ k, k < 8 → parseFieldDescriptor (TX0 k).2.2.1 = some (tyX0 k) := by decide +kernel
abbrev cX0_init : ByteArray := prog_2_method_1_code
def yX0_init : MethodName := ⟨RX0, "<init>", "(II)V"⟩
abbrev cX0_visit : ByteArray := prog_2_method_2_code
def yX0_visit : MethodName := ⟨RX0, "visit", "(I)V"⟩
abbrev cX0_isOn : ByteArray := prog_2_method_3_code
def yX0_isOn : MethodName := ⟨RX0, "isOn", "(II)Z"⟩
def RX1 : String := "FloodingNet$Pieces"
def TX1 : u_T := fun k => match k with
  | 0 => ("FloodingNet$Pieces", "number", "[I", true)
  | 1 => ("FloodingNet$Pieces", "born", "[I", true)
  | 2 => ("FloodingNet$Pieces", "costs", "[J", true)
  | _ => ("FloodingNet$Pieces", "count", "I", false)
def tyX1 : Nat → FieldType := fun k => match k with
  | 0 => .array .int
  | 1 => .array .int
  | 2 => .array .long
  | _ => .int
abbrev wsX10 : List Cond := u_ws RX1 TX1 4
theorem nmX1 : ∀ a, a < 4 → ∀ b, b < 4 → a ≠ b → (TX1 a).2.1 ≠ (TX1 b).2.1 := by decide +kernel
theorem tyX1_ok : ∀ k, k < 4 → parseFieldDescriptor (TX1 k).2.2.1 = some (tyX1 k) := by decide +kernel
abbrev cX1_init : ByteArray := prog_3_method_1_code
def yX1_init : MethodName := ⟨RX1, "<init>", "(I)V"⟩
abbrev cX1_packed : ByteArray := prog_3_method_2_code
def yX1_packed : MethodName := ⟨RX1, "packed", "(II)J"⟩
abbrev cX1_write : ByteArray := prog_3_method_3_code
def yX1_write : MethodName := ⟨RX1, "write", "(IIIJ)V"⟩
abbrev cX1_costFor : ByteArray := prog_3_method_4_code
def yX1_costFor : MethodName := ⟨RX1, "costFor", "(II)I"⟩
abbrev cX1_costCount : ByteArray := prog_3_method_5_code
def yX1_costCount : MethodName := ⟨RX1, "costCount", "(I)I"⟩
abbrev cX1_clear : ByteArray := prog_3_method_6_code
def yX1_clear : MethodName := ⟨RX1, "clear", "(I)V"⟩
abbrev cX1_clearBornUntil : ByteArray := prog_3_method_7_code
def yX1_clearBornUntil : MethodName := ⟨RX1, "clearBornUntil", "(I)V"⟩
def RX2 : String := "FloodingNet"
def TX2 : u_T := fun k => match k with
  | 0 => ("FloodingNet", "there", "[Z", true)
  | 1 => ("FloodingNet", "latestNumber", "[I", true)
  | 2 => ("FloodingNet", "linkCost", "[I", true)
  | 3 => ("FloodingNet", "linkDelay", "[I", true)
  | 4 => ("FloodingNet", "linkUp", "[Z", true)
  | 5 => ("FloodingNet", "linkCount", "I", false)
  | 6 => ("FloodingNet", "known", "LFloodingNet$Pieces;", true)
  | 7 => ("FloodingNet", "inFlight", "LFloodingNet$Pieces;", true)
  | 8 => ("FloodingNet", "newsArrival", "[I", true)
  | 9 => ("FloodingNet", "packets", "[LFloodingNet$Packet;", true)
  | 10 => ("FloodingNet", "packetCount", "I", false)
  | 11 => ("FloodingNet", "costToGoal", "[I", true)
  | _ => ("FloodingNet", "time", "I", false)
def tyX2 : Nat → FieldType := fun k => match k with
  | 0 => .array .boolean
  | 1 => .array .int
  | 2 => .array .int
  | 3 => .array .int
  | 4 => .array .boolean
  | 5 => .int
  | 6 => .object "FloodingNet$Pieces"
  | 7 => .object "FloodingNet$Pieces"
  | 8 => .array .int
  | 9 => .array (.object "FloodingNet$Packet")
  | 10 => .int
  | 11 => .array .int
  | _ => .int
abbrev wsX20 : List Cond := u_ws RX2 TX2 13
theorem nmX2 : ∀ a, a < 13 → ∀ b, b < 13 → a ≠ b → (TX2 a).2.1 ≠ (TX2 b).2.1 := by decide +kernel
theorem tyX2_ok : ∀ k, k < 13 → parseFieldDescriptor (TX2 k).2.2.1 = some (tyX2 k) := by decide +kernel
abbrev cX2_init : ByteArray := prog_1_method_1_code
def yX2_init : MethodName := ⟨RX2, "<init>", "()V"⟩
abbrev cX2_link : ByteArray := prog_1_method_2_code
def yX2_link : MethodName := ⟨RX2, "link", "(IIII)I"⟩
abbrev cX2_fail : ByteArray := prog_1_method_3_code
def yX2_fail : MethodName := ⟨RX2, "fail", "(II)Z"⟩
abbrev cX2_restore : ByteArray := prog_1_method_4_code
def yX2_restore : MethodName := ⟨RX2, "restore", "(II)Z"⟩
abbrev cX2_start : ByteArray := prog_1_method_5_code
def yX2_start : MethodName := ⟨RX2, "start", "(I)Z"⟩
abbrev cX2_crash : ByteArray := prog_1_method_6_code
def yX2_crash : MethodName := ⟨RX2, "crash", "(I)Z"⟩
abbrev cX2_tick : ByteArray := prog_1_method_7_code
def yX2_tick : MethodName := ⟨RX2, "tick", "(I)I"⟩
abbrev cX2_news : ByteArray := prog_1_method_8_code
def yX2_news : MethodName := ⟨RX2, "news", "(III)I"⟩
abbrev cX2_flying : ByteArray := prog_1_method_9_code
def yX2_flying : MethodName := ⟨RX2, "flying", "()I"⟩
abbrev cX2_distance : ByteArray := prog_1_method_10_code
def yX2_distance : MethodName := ⟨RX2, "distance", "(II)I"⟩
abbrev cX2_next : ByteArray := prog_1_method_11_code
def yX2_next : MethodName := ⟨RX2, "next", "(II)I"⟩
abbrev cX2_send : ByteArray := prog_1_method_12_code
def yX2_send : MethodName := ⟨RX2, "send", "(III)I"⟩
abbrev cX2_packet : ByteArray := prog_1_method_13_code
def yX2_packet : MethodName := ⟨RX2, "packet", "(II)I"⟩
abbrev cX2_settled : ByteArray := prog_1_method_14_code
def yX2_settled : MethodName := ⟨RX2, "settled", "()Z"⟩
abbrev cX2_isNode : ByteArray := prog_1_method_15_code
def yX2_isNode : MethodName := ⟨RX2, "isNode", "(I)Z"⟩
abbrev cX2_pair : ByteArray := prog_1_method_16_code
def yX2_pair : MethodName := ⟨RX2, "pair", "(II)I"⟩
abbrev cX2_knownRow : ByteArray := prog_1_method_17_code
def yX2_knownRow : MethodName := ⟨RX2, "knownRow", "(II)I"⟩
abbrev cX2_flightRow : ByteArray := prog_1_method_18_code
def yX2_flightRow : MethodName := ⟨RX2, "flightRow", "(III)I"⟩
abbrev cX2_hasLink : ByteArray := prog_1_method_19_code
def yX2_hasLink : MethodName := ⟨RX2, "hasLink", "(II)Z"⟩
abbrev cX2_carries : ByteArray := prog_1_method_20_code
def yX2_carries : MethodName := ⟨RX2, "carries", "(II)Z"⟩
abbrev cX2_putLink : ByteArray := prog_1_method_21_code
def yX2_putLink : MethodName := ⟨RX2, "putLink", "(IIII)V"⟩
abbrev cX2_bringUp : ByteArray := prog_1_method_22_code
def yX2_bringUp : MethodName := ⟨RX2, "bringUp", "(II)V"⟩
abbrev cX2_takeDown : ByteArray := prog_1_method_23_code
def yX2_takeDown : MethodName := ⟨RX2, "takeDown", "(II)V"⟩
abbrev cX2_emptyLink : ByteArray := prog_1_method_24_code
def yX2_emptyLink : MethodName := ⟨RX2, "emptyLink", "(II)V"⟩
abbrev cX2_tellNeighbours : ByteArray := prog_1_method_25_code
def yX2_tellNeighbours : MethodName := ⟨RX2, "tellNeighbours", "(I)V"⟩
abbrev cX2_tell : ByteArray := prog_1_method_26_code
def yX2_tell : MethodName := ⟨RX2, "tell", "(I)V"⟩
abbrev cX2_costsNow : ByteArray := prog_1_method_27_code
def yX2_costsNow : MethodName := ⟨RX2, "costsNow", "(I)J"⟩
abbrev cX2_spread : ByteArray := prog_1_method_28_code
def yX2_spread : MethodName := ⟨RX2, "spread", "(III)V"⟩
abbrev cX2_sendAllKnown : ByteArray := prog_1_method_29_code
def yX2_sendAllKnown : MethodName := ⟨RX2, "sendAllKnown", "(II)V"⟩
abbrev cX2_sendKnown : ByteArray := prog_1_method_30_code
def yX2_sendKnown : MethodName := ⟨RX2, "sendKnown", "(III)V"⟩
abbrev cX2_tellAgain : ByteArray := prog_1_method_31_code
def yX2_tellAgain : MethodName := ⟨RX2, "tellAgain", "()V"⟩
abbrev cX2_receiveArrivedNews : ByteArray := prog_1_method_32_code
def yX2_receiveArrivedNews : MethodName := ⟨RX2, "receiveArrivedNews", "()V"⟩
abbrev cX2_receive : ByteArray := prog_1_method_33_code
def yX2_receive : MethodName := ⟨RX2, "receive", "(I)V"⟩
abbrev cX2_movePackets : ByteArray := prog_1_method_34_code
def yX2_movePackets : MethodName := ⟨RX2, "movePackets", "()V"⟩
abbrev cX2_handle : ByteArray := prog_1_method_35_code
def yX2_handle : MethodName := ⟨RX2, "handle", "(LFloodingNet$Packet;I)V"⟩
abbrev cX2_nextHop : ByteArray := prog_1_method_36_code
def yX2_nextHop : MethodName := ⟨RX2, "nextHop", "(II)I"⟩
abbrev cX2_measureWays : ByteArray := prog_1_method_37_code
def yX2_measureWays : MethodName := ⟨RX2, "measureWays", "(II)V"⟩
abbrev cX2_stepCost : ByteArray := prog_1_method_38_code
def yX2_stepCost : MethodName := ⟨RX2, "stepCost", "(III)I"⟩
abbrev cX2_agreeOn : ByteArray := prog_1_method_39_code
def yX2_agreeOn : MethodName := ⟨RX2, "agreeOn", "(I)Z"⟩
abbrev cX2_joinedWith : ByteArray := prog_1_method_40_code
def yX2_joinedWith : MethodName := ⟨RX2, "joinedWith", "(I)I"⟩
abbrev cX2_neighbours : ByteArray := prog_1_method_41_code
def yX2_neighbours : MethodName := ⟨RX2, "neighbours", "(I)I"⟩
def RX3 : String := "FloodingNetModel"
def TX3 : u_T := fun k => match k with
  | 0 => ("FloodingNetModel", "thrown", "I", false)
  | 1 => ("FloodingNetModel", "time", "I", false)
  | 2 => ("FloodingNetModel", "there", "[Z", true)
  | 3 => ("FloodingNetModel", "made", "[I", true)
  | 4 => ("FloodingNetModel", "links", "I", false)
  | 5 => ("FloodingNetModel", "joined", "[Z", true)
  | 6 => ("FloodingNetModel", "costs", "[I", true)
  | 7 => ("FloodingNetModel", "delays", "[I", true)
  | 8 => ("FloodingNetModel", "up", "[Z", true)
  | 9 => ("FloodingNetModel", "numbers", "[I", true)
  | 10 => ("FloodingNetModel", "ages", "[I", true)
  | 11 => ("FloodingNetModel", "tells", "[I", true)
  | 12 => ("FloodingNetModel", "flightNumbers", "[I", true)
  | 13 => ("FloodingNetModel", "flightAges", "[I", true)
  | 14 => ("FloodingNetModel", "flightTimes", "[I", true)
  | 15 => ("FloodingNetModel", "flightTells", "[I", true)
  | 16 => ("FloodingNetModel", "packets", "I", false)
  | 17 => ("FloodingNetModel", "targets", "[I", true)
  | 18 => ("FloodingNetModel", "lives", "[I", true)
  | 19 => ("FloodingNetModel", "states", "[I", true)
  | 20 => ("FloodingNetModel", "comesFrom", "[I", true)
  | 21 => ("FloodingNetModel", "comesTo", "[I", true)
  | 22 => ("FloodingNetModel", "comesAt", "[I", true)
  | 23 => ("FloodingNetModel", "traceCounts", "[I", true)
  | 24 => ("FloodingNetModel", "traces", "[I", true)
  | 25 => ("FloodingNetModel", "far", "[I", true)
  | _ => ("FloodingNetModel", "together", "[Z", true)
def tyX3 : Nat → FieldType := fun k => match k with
  | 0 => .int
  | 1 => .int
  | 2 => .array .boolean
  | 3 => .array .int
  | 4 => .int
  | 5 => .array .boolean
  | 6 => .array .int
  | 7 => .array .int
  | 8 => .array .boolean
  | 9 => .array .int
  | 10 => .array .int
  | 11 => .array .int
  | 12 => .array .int
  | 13 => .array .int
  | 14 => .array .int
  | 15 => .array .int
  | 16 => .int
  | 17 => .array .int
  | 18 => .array .int
  | 19 => .array .int
  | 20 => .array .int
  | 21 => .array .int
  | 22 => .array .int
  | 23 => .array .int
  | 24 => .array .int
  | 25 => .array .int
  | _ => .array .boolean
abbrev wsX30 : List Cond := u_ws RX3 TX3 27
theorem nmX3 : ∀ a, a < 27 → ∀ b, b < 27 → a ≠ b → (TX3 a).2.1 ≠ (TX3 b).2.1 := by decide +kernel
theorem tyX3_ok : ∀ k, k < 27 → parseFieldDescriptor (TX3 k).2.2.1 = some (tyX3 k) := by decide +kernel
abbrev cX3_init : ByteArray := prog_5_method_1_code
def yX3_init : MethodName := ⟨RX3, "<init>", "()V"⟩
abbrev cX3_thrown : ByteArray := prog_5_method_2_code
def yX3_thrown : MethodName := ⟨RX3, "thrown", "()I"⟩
abbrev cX3_goes : ByteArray := prog_5_method_3_code
def yX3_goes : MethodName := ⟨RX3, "goes", "(ZZ)Z"⟩
abbrev cX3_in : ByteArray := prog_5_method_4_code
def yX3_in : MethodName := ⟨RX3, "in", "(III)Z"⟩
abbrev cX3_isNode : ByteArray := prog_5_method_5_code
def yX3_isNode : MethodName := ⟨RX3, "isNode", "(I)Z"⟩
abbrev cX3_haveLink : ByteArray := prog_5_method_6_code
def yX3_haveLink : MethodName := ⟨RX3, "haveLink", "(II)Z"⟩
abbrev cX3_carries : ByteArray := prog_5_method_7_code
def yX3_carries : MethodName := ⟨RX3, "carries", "(II)Z"⟩
abbrev cX3_pass : ByteArray := prog_5_method_8_code
def yX3_pass : MethodName := ⟨RX3, "pass", "(III)V"⟩
abbrev cX3_tell : ByteArray := prog_5_method_9_code
def yX3_tell : MethodName := ⟨RX3, "tell", "(I)V"⟩
abbrev cX3_sendAll : ByteArray := prog_5_method_10_code
def yX3_sendAll : MethodName := ⟨RX3, "sendAll", "(II)V"⟩
abbrev cX3_receive : ByteArray := prog_5_method_11_code
def yX3_receive : MethodName := ⟨RX3, "receive", "(III)V"⟩
abbrev cX3_cut : ByteArray := prog_5_method_12_code
def yX3_cut : MethodName := ⟨RX3, "cut", "(II)V"⟩
abbrev cX3_comeUp : ByteArray := prog_5_method_13_code
def yX3_comeUp : MethodName := ⟨RX3, "comeUp", "(II)V"⟩
abbrev cX3_link : ByteArray := prog_5_method_14_code
def yX3_link : MethodName := ⟨RX3, "link", "(IIII)I"⟩
abbrev cX3_fail : ByteArray := prog_5_method_15_code
def yX3_fail : MethodName := ⟨RX3, "fail", "(II)Z"⟩
abbrev cX3_restore : ByteArray := prog_5_method_16_code
def yX3_restore : MethodName := ⟨RX3, "restore", "(II)Z"⟩
abbrev cX3_forget : ByteArray := prog_5_method_17_code
def yX3_forget : MethodName := ⟨RX3, "forget", "(I)V"⟩
abbrev cX3_start : ByteArray := prog_5_method_18_code
def yX3_start : MethodName := ⟨RX3, "start", "(I)Z"⟩
abbrev cX3_crash : ByteArray := prog_5_method_19_code
def yX3_crash : MethodName := ⟨RX3, "crash", "(I)Z"⟩
abbrev cX3_grow : ByteArray := prog_5_method_20_code
def yX3_grow : MethodName := ⟨RX3, "grow", "()V"⟩
abbrev cX3_oneTick : ByteArray := prog_5_method_21_code
def yX3_oneTick : MethodName := ⟨RX3, "oneTick", "()V"⟩
abbrev cX3_tick : ByteArray := prog_5_method_22_code
def yX3_tick : MethodName := ⟨RX3, "tick", "(I)I"⟩
abbrev cX3_step : ByteArray := prog_5_method_23_code
def yX3_step : MethodName := ⟨RX3, "step", "(III)I"⟩
abbrev cX3_measure : ByteArray := prog_5_method_24_code
def yX3_measure : MethodName := ⟨RX3, "measure", "(II)V"⟩
abbrev cX3_nextOf : ByteArray := prog_5_method_25_code
def yX3_nextOf : MethodName := ⟨RX3, "nextOf", "(II)I"⟩
abbrev cX3_distance : ByteArray := prog_5_method_26_code
def yX3_distance : MethodName := ⟨RX3, "distance", "(II)I"⟩
abbrev cX3_next : ByteArray := prog_5_method_27_code
def yX3_next : MethodName := ⟨RX3, "next", "(II)I"⟩
abbrev cX3_isAt : ByteArray := prog_5_method_28_code
def yX3_isAt : MethodName := ⟨RX3, "isAt", "(II)V"⟩
abbrev cX3_send : ByteArray := prog_5_method_29_code
def yX3_send : MethodName := ⟨RX3, "send", "(III)I"⟩
abbrev cX3_packet : ByteArray := prog_5_method_30_code
def yX3_packet : MethodName := ⟨RX3, "packet", "(II)I"⟩
abbrev cX3_news : ByteArray := prog_5_method_31_code
def yX3_news : MethodName := ⟨RX3, "news", "(III)I"⟩
abbrev cX3_flying : ByteArray := prog_5_method_32_code
def yX3_flying : MethodName := ⟨RX3, "flying", "()I"⟩
abbrev cX3_settled : ByteArray := prog_5_method_33_code
def yX3_settled : MethodName := ⟨RX3, "settled", "()Z"⟩
def RJ9 : String := "java/lang/Math"
def TJ9 : u_T := fun k => match k with
  | _ => ("", "", "", false)
def tyJ9 : Nat → FieldType := fun k => match k with
  | _ => .int
theorem nmJ9 : ∀ a, a < 0 → ∀ b, b < 0 → a ≠ b → (TJ9 a).2.1 ≠ (TJ9 b).2.1 := by decide +kernel
theorem tyJ9_ok : ∀ k, k < 0 → parseFieldDescriptor (TJ9 k).2.2.1 = some (tyJ9 k) := by decide +kernel
abbrev cJ9_max_7cf53 : ByteArray := prog_9_method_65_code
def yJ9_max_7cf53 : MethodName := ⟨RJ9, "max", "(II)I"⟩
abbrev cJ9_min_7cf53 : ByteArray := prog_9_method_69_code
def yJ9_min_7cf53 : MethodName := ⟨RJ9, "min", "(II)I"⟩
def RJ0 : String := "java/lang/String"
def TJ0 : u_T := fun k => match k with
  | _ => ("", "", "", false)
def tyJ0 : Nat → FieldType := fun k => match k with
  | _ => .int
theorem nmJ0 : ∀ a, a < 0 → ∀ b, b < 0 → a ≠ b → (TJ0 a).2.1 ≠ (TJ0 b).2.1 := by decide +kernel
theorem tyJ0_ok : ∀ k, k < 0 → parseFieldDescriptor (TJ0 k).2.2.1 = some (tyJ0 k) := by decide +kernel
def RL : String := "FloodingNetLaw"
abbrev cL_link : ByteArray := method_3_code
def yL_link : MethodName := ⟨RL, "link", "(LFloodingNet;IIII[J)I"⟩
abbrev cL_fail : ByteArray := method_4_code
def yL_fail : MethodName := ⟨RL, "fail", "(LFloodingNet;II[J)I"⟩
abbrev cL_restore : ByteArray := method_5_code
def yL_restore : MethodName := ⟨RL, "restore", "(LFloodingNet;II[J)I"⟩
abbrev cL_start : ByteArray := method_6_code
def yL_start : MethodName := ⟨RL, "start", "(LFloodingNet;I[J)I"⟩
abbrev cL_crash : ByteArray := method_7_code
def yL_crash : MethodName := ⟨RL, "crash", "(LFloodingNet;I[J)I"⟩
abbrev cL_tick : ByteArray := method_8_code
def yL_tick : MethodName := ⟨RL, "tick", "(LFloodingNet;I[J)I"⟩
abbrev cL_send : ByteArray := method_9_code
def yL_send : MethodName := ⟨RL, "send", "(LFloodingNet;III[J)I"⟩
abbrev cL_law : ByteArray := code
def yL_law : MethodName := ⟨RL, "law", "([I)Z"⟩
abbrev vwCl : List vw_C := [(RX0, TX0, 8), (RX1, TX1, 4), (RX2, TX2, 13), (RX3, TX3, 27)]
/-- ONE list of words for all methods: the good ones of the tables -/
def gw : List Cond := lw_tbl.filter goodWord
theorem gw_lw : ∀ w ∈ gw, w ∈ lw_tbl := fun _ h => (List.mem_filter.mp h).1
theorem gw_good {w : Cond} (h : w ∈ gw) : goodWord w = true := (List.mem_filter.mp h).2
theorem gw_at {w : Cond} (i : Nat) (h : lw_tbl[i]? = some w) (hg : goodWord w = true) : w ∈ gw := List.mem_filter.mpr ⟨List.mem_of_getElem? h, hg⟩
theorem gw_all (ws : List Cond) (ps : List Nat) (hp : ws = ps.filterMap (fun i => lw_tbl[i]?)) (h : ws.all goodWord = true) : ∀ w ∈ ws, w ∈ gw := by
  intro w hw
  have h1 := List.all_eq_true.mp h w hw
  rw [hp] at hw
  obtain ⟨i, -, hi⟩ := List.mem_filterMap.mp hw
  exact gw_at i hi h1
/-- a callee's words among a caller's -/
theorem gw_good_in {c z : Cond} (hz : z ∈ gw) : GoodIn (c :: gw) (z :: gw) := fun w hw => by
  rcases List.mem_cons.mp hw with rfl | h
  · exact ⟨List.mem_cons_of_mem _ hz, good_of_word (gw_good hz)⟩
  · exact ⟨List.mem_cons_of_mem _ h, good_of_word (gw_good h)⟩
theorem gw_good_lw {z : Cond} (hz : z ∈ gw) : GoodIn lw_tbl (z :: gw) := fun w hw => by
  rcases List.mem_cons.mp hw with rfl | h
  · exact ⟨gw_lw _ hz, good_of_word (gw_good hz)⟩
  · exact ⟨gw_lw _ h, good_of_word (gw_good h)⟩
theorem gw_good_1 {c w : Cond} {ws : List Cond} (h : w ∈ gw) (hs : GoodIn (c :: gw) ws) : GoodIn (c :: gw) (w :: ws) := fun v hv => by
  rcases List.mem_cons.mp hv with rfl | h2
  · exact ⟨List.mem_cons_of_mem _ h, good_of_word (gw_good h)⟩
  · exact hs v h2
theorem gw_good_l1 {w : Cond} {ws : List Cond} (h : w ∈ gw) (hs : GoodIn lw_tbl ws) : GoodIn lw_tbl (w :: ws) := fun v hv => by
  rcases List.mem_cons.mp hv with rfl | h2
  · exact ⟨gw_lw _ h, good_of_word (gw_good h)⟩
  · exact hs v h2
theorem inX0 : ∀ w ∈ wsX00, w ∈ gw := gw_all wsX00 [460, 462, 464, 466, 468, 470, 472, 474] (by decide +kernel) (by decide +kernel)
theorem inX1 : ∀ w ∈ wsX10, w ∈ gw := gw_all wsX10 [80, 82, 84, 86] (by decide +kernel) (by decide +kernel)
theorem inX2 : ∀ w ∈ wsX20, w ∈ gw := gw_all wsX20 [107, 109, 111, 113, 115, 117, 119, 121, 123, 125, 127, 129, 131] (by decide +kernel) (by decide +kernel)
theorem inX3 : ∀ w ∈ wsX30, w ∈ gw := gw_all wsX30 [510, 512, 514, 516, 518, 520, 522, 524, 526, 528, 530, 532, 534, 536, 538, 540, 542, 544, 546, 548, 550, 552, 554, 556, 558, 560, 562] (by decide +kernel) (by decide +kernel)
theorem wm_0 : (Cond.selects "FloodingNet$Pieces" ⟨"FloodingNet$Pieces", "costCount", "(I)I"⟩ ⟨"FloodingNet$Pieces", "costCount", "(I)I"⟩) ∈ gw := gw_at 0 (by decide +kernel) rfl
theorem wm_1 : (Cond.selects "FloodingNet$Pieces" ⟨"FloodingNet$Pieces", "costFor", "(II)I"⟩ ⟨"FloodingNet$Pieces", "costFor", "(II)I"⟩) ∈ gw := gw_at 1 (by decide +kernel) rfl
theorem wm_2 : (Cond.selects "FloodingNet" ⟨"FloodingNet", "measureWays", "(II)V"⟩ ⟨"FloodingNet", "measureWays", "(II)V"⟩) ∈ gw := gw_at 2 (by decide +kernel) rfl
theorem wm_3 : (Cond.selects "FloodingNet" ⟨"FloodingNet", "stepCost", "(III)I"⟩ ⟨"FloodingNet", "stepCost", "(III)I"⟩) ∈ gw := gw_at 3 (by decide +kernel) rfl
theorem wm_4 : (Cond.selects "FloodingNet" ⟨"FloodingNet", "nextHop", "(II)I"⟩ ⟨"FloodingNet", "nextHop", "(II)I"⟩) ∈ gw := gw_at 4 (by decide +kernel) rfl
theorem wm_5 : (Cond.selects "FloodingNet" ⟨"FloodingNet", "agreeOn", "(I)Z"⟩ ⟨"FloodingNet", "agreeOn", "(I)Z"⟩) ∈ gw := gw_at 5 (by decide +kernel) rfl
theorem wm_6 : (Cond.selects "FloodingNet" ⟨"FloodingNet", "joinedWith", "(I)I"⟩ ⟨"FloodingNet", "joinedWith", "(I)I"⟩) ∈ gw := gw_at 6 (by decide +kernel) rfl
theorem wm_7 : (Cond.selects "FloodingNet" ⟨"FloodingNet", "neighbours", "(I)I"⟩ ⟨"FloodingNet", "neighbours", "(I)I"⟩) ∈ gw := gw_at 7 (by decide +kernel) rfl
theorem wm_8 : (Cond.selects "FloodingNet" ⟨"FloodingNet", "carries", "(II)Z"⟩ ⟨"FloodingNet", "carries", "(II)Z"⟩) ∈ gw := gw_at 8 (by decide +kernel) rfl
theorem wm_9 : (Cond.selects "java/lang/Throwable" ⟨"java/lang/Throwable", "fillInStackTrace", "(I)Ljava/lang/Throwable;"⟩ ⟨"java/lang/Throwable", "fillInStackTrace", "(I)Ljava/lang/Throwable;"⟩) ∈ gw := gw_at 9 (by decide +kernel) rfl
theorem wm_10 : (Cond.selects "FloodingNet" ⟨"FloodingNet", "hasLink", "(II)Z"⟩ ⟨"FloodingNet", "hasLink", "(II)Z"⟩) ∈ gw := gw_at 10 (by decide +kernel) rfl
theorem wm_11 : (Cond.selects "FloodingNet" ⟨"FloodingNet", "putLink", "(IIII)V"⟩ ⟨"FloodingNet", "putLink", "(IIII)V"⟩) ∈ gw := gw_at 11 (by decide +kernel) rfl
theorem wm_12 : (Cond.selects "FloodingNet" ⟨"FloodingNet", "bringUp", "(II)V"⟩ ⟨"FloodingNet", "bringUp", "(II)V"⟩) ∈ gw := gw_at 12 (by decide +kernel) rfl
theorem wm_13 : (Cond.selects "FloodingNet" ⟨"FloodingNet", "tell", "(I)V"⟩ ⟨"FloodingNet", "tell", "(I)V"⟩) ∈ gw := gw_at 13 (by decide +kernel) rfl
theorem wm_14 : (Cond.selects "FloodingNet" ⟨"FloodingNet", "costsNow", "(I)J"⟩ ⟨"FloodingNet", "costsNow", "(I)J"⟩) ∈ gw := gw_at 14 (by decide +kernel) rfl
theorem wm_15 : (Cond.selects "FloodingNet$Pieces" ⟨"FloodingNet$Pieces", "write", "(IIIJ)V"⟩ ⟨"FloodingNet$Pieces", "write", "(IIIJ)V"⟩) ∈ gw := gw_at 15 (by decide +kernel) rfl
theorem wm_16 : (Cond.selects "FloodingNet" ⟨"FloodingNet", "spread", "(III)V"⟩ ⟨"FloodingNet", "spread", "(III)V"⟩) ∈ gw := gw_at 16 (by decide +kernel) rfl
theorem wm_17 : (Cond.selects "FloodingNet" ⟨"FloodingNet", "sendKnown", "(III)V"⟩ ⟨"FloodingNet", "sendKnown", "(III)V"⟩) ∈ gw := gw_at 17 (by decide +kernel) rfl
theorem wm_18 : (Cond.selects "FloodingNet" ⟨"FloodingNet", "sendAllKnown", "(II)V"⟩ ⟨"FloodingNet", "sendAllKnown", "(II)V"⟩) ∈ gw := gw_at 18 (by decide +kernel) rfl
theorem wm_19 : (Cond.selects "FloodingNet" ⟨"FloodingNet", "takeDown", "(II)V"⟩ ⟨"FloodingNet", "takeDown", "(II)V"⟩) ∈ gw := gw_at 19 (by decide +kernel) rfl
theorem wm_20 : (Cond.selects "FloodingNet" ⟨"FloodingNet", "emptyLink", "(II)V"⟩ ⟨"FloodingNet", "emptyLink", "(II)V"⟩) ∈ gw := gw_at 20 (by decide +kernel) rfl
theorem wm_21 : (Cond.selects "FloodingNet$Pieces" ⟨"FloodingNet$Pieces", "clear", "(I)V"⟩ ⟨"FloodingNet$Pieces", "clear", "(I)V"⟩) ∈ gw := gw_at 21 (by decide +kernel) rfl
theorem wm_22 : (Cond.selects "FloodingNet$Packet" ⟨"FloodingNet$Packet", "isOn", "(II)Z"⟩ ⟨"FloodingNet$Packet", "isOn", "(II)Z"⟩) ∈ gw := gw_at 22 (by decide +kernel) rfl
theorem wm_23 : (Cond.selects "FloodingNet" ⟨"FloodingNet", "tellNeighbours", "(I)V"⟩ ⟨"FloodingNet", "tellNeighbours", "(I)V"⟩) ∈ gw := gw_at 23 (by decide +kernel) rfl
theorem wm_24 : (Cond.selects "FloodingNet$Pieces" ⟨"FloodingNet$Pieces", "clearBornUntil", "(I)V"⟩ ⟨"FloodingNet$Pieces", "clearBornUntil", "(I)V"⟩) ∈ gw := gw_at 24 (by decide +kernel) rfl
theorem wm_25 : (Cond.selects "FloodingNet" ⟨"FloodingNet", "tellAgain", "()V"⟩ ⟨"FloodingNet", "tellAgain", "()V"⟩) ∈ gw := gw_at 25 (by decide +kernel) rfl
theorem wm_26 : (Cond.selects "FloodingNet" ⟨"FloodingNet", "receiveArrivedNews", "()V"⟩ ⟨"FloodingNet", "receiveArrivedNews", "()V"⟩) ∈ gw := gw_at 26 (by decide +kernel) rfl
theorem wm_27 : (Cond.selects "FloodingNet" ⟨"FloodingNet", "receive", "(I)V"⟩ ⟨"FloodingNet", "receive", "(I)V"⟩) ∈ gw := gw_at 27 (by decide +kernel) rfl
theorem wm_28 : (Cond.selects "FloodingNet" ⟨"FloodingNet", "movePackets", "()V"⟩ ⟨"FloodingNet", "movePackets", "()V"⟩) ∈ gw := gw_at 28 (by decide +kernel) rfl
theorem wm_29 : (Cond.selects "FloodingNet" ⟨"FloodingNet", "handle", "(LFloodingNet$Packet;I)V"⟩ ⟨"FloodingNet", "handle", "(LFloodingNet$Packet;I)V"⟩) ∈ gw := gw_at 29 (by decide +kernel) rfl
theorem wm_30 : (Cond.selects "FloodingNet$Packet" ⟨"FloodingNet$Packet", "visit", "(I)V"⟩ ⟨"FloodingNet$Packet", "visit", "(I)V"⟩) ∈ gw := gw_at 30 (by decide +kernel) rfl
theorem wm_31 : (Cond.selects "FloodingNetModel" ⟨"FloodingNetModel", "goes", "(ZZ)Z"⟩ ⟨"FloodingNetModel", "goes", "(ZZ)Z"⟩) ∈ gw := gw_at 31 (by decide +kernel) rfl
theorem wm_32 : (Cond.selects "FloodingNetModel" ⟨"FloodingNetModel", "comeUp", "(II)V"⟩ ⟨"FloodingNetModel", "comeUp", "(II)V"⟩) ∈ gw := gw_at 32 (by decide +kernel) rfl
theorem wm_33 : (Cond.selects "FloodingNetModel" ⟨"FloodingNetModel", "tell", "(I)V"⟩ ⟨"FloodingNetModel", "tell", "(I)V"⟩) ∈ gw := gw_at 33 (by decide +kernel) rfl
theorem wm_34 : (Cond.selects "FloodingNetModel" ⟨"FloodingNetModel", "carries", "(II)Z"⟩ ⟨"FloodingNetModel", "carries", "(II)Z"⟩) ∈ gw := gw_at 34 (by decide +kernel) rfl
theorem wm_35 : (Cond.selects "FloodingNetModel" ⟨"FloodingNetModel", "pass", "(III)V"⟩ ⟨"FloodingNetModel", "pass", "(III)V"⟩) ∈ gw := gw_at 35 (by decide +kernel) rfl
theorem wm_36 : (Cond.selects "FloodingNetModel" ⟨"FloodingNetModel", "sendAll", "(II)V"⟩ ⟨"FloodingNetModel", "sendAll", "(II)V"⟩) ∈ gw := gw_at 36 (by decide +kernel) rfl
theorem wm_37 : (Cond.selects "FloodingNetModel" ⟨"FloodingNetModel", "haveLink", "(II)Z"⟩ ⟨"FloodingNetModel", "haveLink", "(II)Z"⟩) ∈ gw := gw_at 37 (by decide +kernel) rfl
theorem wm_38 : (Cond.selects "FloodingNetModel" ⟨"FloodingNetModel", "cut", "(II)V"⟩ ⟨"FloodingNetModel", "cut", "(II)V"⟩) ∈ gw := gw_at 38 (by decide +kernel) rfl
theorem wm_39 : (Cond.selects "FloodingNetModel" ⟨"FloodingNetModel", "forget", "(I)V"⟩ ⟨"FloodingNetModel", "forget", "(I)V"⟩) ∈ gw := gw_at 39 (by decide +kernel) rfl
theorem wm_40 : (Cond.selects "FloodingNetModel" ⟨"FloodingNetModel", "oneTick", "()V"⟩ ⟨"FloodingNetModel", "oneTick", "()V"⟩) ∈ gw := gw_at 40 (by decide +kernel) rfl
theorem wm_41 : (Cond.selects "FloodingNetModel" ⟨"FloodingNetModel", "grow", "()V"⟩ ⟨"FloodingNetModel", "grow", "()V"⟩) ∈ gw := gw_at 41 (by decide +kernel) rfl
theorem wm_42 : (Cond.selects "FloodingNetModel" ⟨"FloodingNetModel", "receive", "(III)V"⟩ ⟨"FloodingNetModel", "receive", "(III)V"⟩) ∈ gw := gw_at 42 (by decide +kernel) rfl
theorem wm_43 : (Cond.selects "FloodingNetModel" ⟨"FloodingNetModel", "isAt", "(II)V"⟩ ⟨"FloodingNetModel", "isAt", "(II)V"⟩) ∈ gw := gw_at 43 (by decide +kernel) rfl
theorem wm_44 : (Cond.selects "FloodingNetModel" ⟨"FloodingNetModel", "nextOf", "(II)I"⟩ ⟨"FloodingNetModel", "nextOf", "(II)I"⟩) ∈ gw := gw_at 44 (by decide +kernel) rfl
theorem wm_45 : (Cond.selects "FloodingNetModel" ⟨"FloodingNetModel", "measure", "(II)V"⟩ ⟨"FloodingNetModel", "measure", "(II)V"⟩) ∈ gw := gw_at 45 (by decide +kernel) rfl
theorem wm_46 : (Cond.selects "FloodingNetModel" ⟨"FloodingNetModel", "step", "(III)I"⟩ ⟨"FloodingNetModel", "step", "(III)I"⟩) ∈ gw := gw_at 46 (by decide +kernel) rfl
theorem wm_47 : (Cond.initialized "FloodingNetLaw") ∈ gw := gw_at 47 (by decide +kernel) rfl
theorem wm_48 : (Cond.initialized "FloodingNet") ∈ gw := gw_at 48 (by decide +kernel) rfl
theorem wm_49 : (Cond.initialized "FloodingNet$Pieces") ∈ gw := gw_at 49 (by decide +kernel) rfl
theorem wm_50 : (Cond.initialized "FloodingNetModel") ∈ gw := gw_at 50 (by decide +kernel) rfl
theorem wm_51 : (Cond.initialized "java/lang/Throwable") ∈ gw := gw_at 51 (by decide +kernel) rfl
theorem wm_52 : (Cond.initialized "java/lang/Exception") ∈ gw := gw_at 52 (by decide +kernel) rfl
theorem wm_53 : (Cond.initialized "java/lang/RuntimeException") ∈ gw := gw_at 53 (by decide +kernel) rfl
theorem wm_54 : (Cond.initialized "java/lang/IllegalArgumentException") ∈ gw := gw_at 54 (by decide +kernel) rfl
theorem wm_55 : (Cond.initialized "java/lang/IllegalStateException") ∈ gw := gw_at 55 (by decide +kernel) rfl
theorem wm_56 : (Cond.initialized "java/lang/Math") ∈ gw := gw_at 56 (by decide +kernel) rfl
theorem wm_57 : (Cond.initialized "FloodingNet$Packet") ∈ gw := gw_at 57 (by decide +kernel) rfl
theorem wm_58 : (Cond.classLink "FloodingNetLaw" 8 "FloodingNet") ∈ gw := gw_at 58 (by decide +kernel) rfl
theorem wm_59 : (Cond.instantiable "FloodingNet" 13) ∈ gw := gw_at 59 (by decide +kernel) rfl
theorem wm_60 : (Cond.methodLink "FloodingNetLaw" 39 ⟨"FloodingNet", "<init>", "()V"⟩) ∈ gw := gw_at 60 (by decide +kernel) rfl
theorem wm_61 : (Cond.instanceMethod ⟨"FloodingNet", "<init>", "()V"⟩) ∈ gw := gw_at 61 (by decide +kernel) rfl
theorem wm_62 : (Cond.code ⟨"FloodingNet", "<init>", "()V"⟩ prog_1_method_1_code 1 none) ∈ gw := gw_at 62 (by decide +kernel) rfl
theorem wm_63 : (Cond.methodLink "FloodingNet" 3 ⟨"java/lang/Object", "<init>", "()V"⟩) ∈ gw := gw_at 63 (by decide +kernel) rfl
theorem wm_64 : (Cond.instanceMethod ⟨"java/lang/Object", "<init>", "()V"⟩) ∈ gw := gw_at 64 (by decide +kernel) rfl
theorem wm_65 : (Cond.code ⟨"java/lang/Object", "<init>", "()V"⟩ object_method_1_code 1 none) ∈ gw := gw_at 65 (by decide +kernel) rfl
theorem wm_66 : (Cond.classLink "FloodingNet" 26 "FloodingNet$Pieces") ∈ gw := gw_at 66 (by decide +kernel) rfl
theorem wm_67 : (Cond.instantiable "FloodingNet$Pieces" 4) ∈ gw := gw_at 67 (by decide +kernel) rfl
theorem wn_68 : (Cond.methodLinkNest "FloodingNet" 28 ⟨"FloodingNet$Pieces", "<init>", "(I)V"⟩ "FloodingNet") ∈ lw_tbl := List.mem_of_getElem? (i := 68) (by decide +kernel)
theorem wm_69 : (Cond.instanceMethod ⟨"FloodingNet$Pieces", "<init>", "(I)V"⟩) ∈ gw := gw_at 69 (by decide +kernel) rfl
theorem wm_70 : (Cond.code ⟨"FloodingNet$Pieces", "<init>", "(I)V"⟩ prog_3_method_1_code 2 none) ∈ gw := gw_at 70 (by decide +kernel) rfl
theorem wm_71 : (Cond.methodLink "FloodingNet$Pieces" 3 ⟨"java/lang/Object", "<init>", "()V"⟩) ∈ gw := gw_at 71 (by decide +kernel) rfl
theorem wm_72 : (Cond.fieldLink "FloodingNet$Pieces" 9 "FloodingNet$Pieces" "number" "[I") ∈ gw := gw_at 72 (by decide +kernel) rfl
theorem wn_73 : (Cond.fieldLinkNest "FloodingNet" 133 "FloodingNet$Pieces" "number" "[I" "FloodingNet") ∈ lw_tbl := List.mem_of_getElem? (i := 73) (by decide +kernel)
theorem wm_74 : (Cond.fieldLink "FloodingNet$Pieces" 15 "FloodingNet$Pieces" "born" "[I") ∈ gw := gw_at 74 (by decide +kernel) rfl
theorem wn_75 : (Cond.fieldLinkNest "FloodingNet" 136 "FloodingNet$Pieces" "born" "[I" "FloodingNet") ∈ lw_tbl := List.mem_of_getElem? (i := 75) (by decide +kernel)
theorem wm_76 : (Cond.fieldLink "FloodingNet$Pieces" 18 "FloodingNet$Pieces" "costs" "[J") ∈ gw := gw_at 76 (by decide +kernel) rfl
theorem wn_77 : (Cond.fieldLinkNest "FloodingNet" 217 "FloodingNet$Pieces" "costs" "[J" "FloodingNet") ∈ lw_tbl := List.mem_of_getElem? (i := 77) (by decide +kernel)
theorem wm_78 : (Cond.fieldLink "FloodingNet$Pieces" 22 "FloodingNet$Pieces" "count" "I") ∈ gw := gw_at 78 (by decide +kernel) rfl
theorem wn_79 : (Cond.fieldLinkNest "FloodingNet" 146 "FloodingNet$Pieces" "count" "I" "FloodingNet") ∈ lw_tbl := List.mem_of_getElem? (i := 79) (by decide +kernel)
theorem wm_89 : (Cond.arrayClass FieldType.boolean) ∈ gw := gw_at 89 (by decide +kernel) rfl
theorem wm_90 : (Cond.arrayClass FieldType.int) ∈ gw := gw_at 90 (by decide +kernel) rfl
theorem wm_91 : (Cond.arrayClass FieldType.long) ∈ gw := gw_at 91 (by decide +kernel) rfl
theorem wm_92 : (Cond.classLink "FloodingNet" 41 "FloodingNet$Packet") ∈ gw := gw_at 92 (by decide +kernel) rfl
theorem wn_93 : (Cond.arrayOver (FieldType.object "FloodingNet$Packet")) ∈ lw_tbl := List.mem_of_getElem? (i := 93) (by decide +kernel)
theorem wm_94 : (Cond.fieldLink "FloodingNet" 9 "FloodingNet" "there" "[Z") ∈ gw := gw_at 94 (by decide +kernel) rfl
theorem wm_95 : (Cond.fieldLink "FloodingNet" 13 "FloodingNet" "latestNumber" "[I") ∈ gw := gw_at 95 (by decide +kernel) rfl
theorem wm_96 : (Cond.fieldLink "FloodingNet" 17 "FloodingNet" "linkCost" "[I") ∈ gw := gw_at 96 (by decide +kernel) rfl
theorem wm_97 : (Cond.fieldLink "FloodingNet" 20 "FloodingNet" "linkDelay" "[I") ∈ gw := gw_at 97 (by decide +kernel) rfl
theorem wm_98 : (Cond.fieldLink "FloodingNet" 23 "FloodingNet" "linkUp" "[Z") ∈ gw := gw_at 98 (by decide +kernel) rfl
theorem wm_99 : (Cond.fieldLink "FloodingNet" 67 "FloodingNet" "linkCount" "I") ∈ gw := gw_at 99 (by decide +kernel) rfl
theorem wm_100 : (Cond.fieldLink "FloodingNet" 31 "FloodingNet" "known" "LFloodingNet$Pieces;") ∈ gw := gw_at 100 (by decide +kernel) rfl
theorem wm_101 : (Cond.fieldLink "FloodingNet" 35 "FloodingNet" "inFlight" "LFloodingNet$Pieces;") ∈ gw := gw_at 101 (by decide +kernel) rfl
theorem wm_102 : (Cond.fieldLink "FloodingNet" 38 "FloodingNet" "newsArrival" "[I") ∈ gw := gw_at 102 (by decide +kernel) rfl
theorem wm_103 : (Cond.fieldLink "FloodingNet" 43 "FloodingNet" "packets" "[LFloodingNet$Packet;") ∈ gw := gw_at 103 (by decide +kernel) rfl
theorem wm_104 : (Cond.fieldLink "FloodingNet" 157 "FloodingNet" "packetCount" "I") ∈ gw := gw_at 104 (by decide +kernel) rfl
theorem wm_105 : (Cond.fieldLink "FloodingNet" 47 "FloodingNet" "costToGoal" "[I") ∈ gw := gw_at 105 (by decide +kernel) rfl
theorem wm_106 : (Cond.fieldLink "FloodingNet" 118 "FloodingNet" "time" "I") ∈ gw := gw_at 106 (by decide +kernel) rfl
theorem wm_134 : (Cond.methodLink "FloodingNetLaw" 70 ⟨"FloodingNet", "news", "(III)I"⟩) ∈ gw := gw_at 134 (by decide +kernel) rfl
theorem wm_135 : (Cond.instanceMethod ⟨"FloodingNet", "news", "(III)I"⟩) ∈ gw := gw_at 135 (by decide +kernel) rfl
theorem wm_136 : (Cond.selects "FloodingNet" ⟨"FloodingNet", "news", "(III)I"⟩ ⟨"FloodingNet", "news", "(III)I"⟩) ∈ gw := gw_at 136 (by decide +kernel) rfl
theorem wm_137 : (Cond.code ⟨"FloodingNet", "news", "(III)I"⟩ prog_1_method_8_code 5 (some FieldType.int)) ∈ gw := gw_at 137 (by decide +kernel) rfl
theorem wm_138 : (Cond.methodLink "FloodingNet" 50 ⟨"FloodingNet", "isNode", "(I)Z"⟩) ∈ gw := gw_at 138 (by decide +kernel) rfl
theorem wm_139 : (Cond.static ⟨"FloodingNet", "isNode", "(I)Z"⟩) ∈ gw := gw_at 139 (by decide +kernel) rfl
theorem wm_140 : (Cond.code ⟨"FloodingNet", "isNode", "(I)Z"⟩ prog_1_method_15_code 1 (some FieldType.boolean)) ∈ gw := gw_at 140 (by decide +kernel) rfl
theorem wm_141 : (Cond.methodLink "FloodingNet" 107 ⟨"FloodingNet", "knownRow", "(II)I"⟩) ∈ gw := gw_at 141 (by decide +kernel) rfl
theorem wm_142 : (Cond.static ⟨"FloodingNet", "knownRow", "(II)I"⟩) ∈ gw := gw_at 142 (by decide +kernel) rfl
theorem wm_143 : (Cond.code ⟨"FloodingNet", "knownRow", "(II)I"⟩ prog_1_method_17_code 2 (some FieldType.int)) ∈ gw := gw_at 143 (by decide +kernel) rfl
theorem wn_144 : (Cond.methodLinkNest "FloodingNet" 139 ⟨"FloodingNet$Pieces", "costCount", "(I)I"⟩ "FloodingNet") ∈ lw_tbl := List.mem_of_getElem? (i := 144) (by decide +kernel)
theorem wm_146 : (Cond.instanceMethod ⟨"FloodingNet$Pieces", "costCount", "(I)I"⟩) ∈ gw := gw_at 146 (by decide +kernel) rfl
theorem wm_147 : (Cond.code ⟨"FloodingNet$Pieces", "costCount", "(I)I"⟩ prog_3_method_5_code 4 (some FieldType.int)) ∈ gw := gw_at 147 (by decide +kernel) rfl
theorem wm_148 : (Cond.methodLink "FloodingNet$Pieces" 26 ⟨"FloodingNet$Pieces", "costFor", "(II)I"⟩) ∈ gw := gw_at 148 (by decide +kernel) rfl
theorem wm_150 : (Cond.instanceMethod ⟨"FloodingNet$Pieces", "costFor", "(II)I"⟩) ∈ gw := gw_at 150 (by decide +kernel) rfl
theorem wm_151 : (Cond.code ⟨"FloodingNet$Pieces", "costFor", "(II)I"⟩ prog_3_method_4_code 3 (some FieldType.int)) ∈ gw := gw_at 151 (by decide +kernel) rfl
theorem wn_152 : (Cond.methodLinkNest "FloodingNet" 143 ⟨"FloodingNet$Pieces", "costFor", "(II)I"⟩ "FloodingNet") ∈ lw_tbl := List.mem_of_getElem? (i := 152) (by decide +kernel)
theorem wm_153 : (Cond.methodLink "FloodingNetLaw" 74 ⟨"FloodingNet", "flying", "()I"⟩) ∈ gw := gw_at 153 (by decide +kernel) rfl
theorem wm_154 : (Cond.instanceMethod ⟨"FloodingNet", "flying", "()I"⟩) ∈ gw := gw_at 154 (by decide +kernel) rfl
theorem wm_155 : (Cond.selects "FloodingNet" ⟨"FloodingNet", "flying", "()I"⟩ ⟨"FloodingNet", "flying", "()I"⟩) ∈ gw := gw_at 155 (by decide +kernel) rfl
theorem wm_156 : (Cond.code ⟨"FloodingNet", "flying", "()I"⟩ prog_1_method_9_code 1 (some FieldType.int)) ∈ gw := gw_at 156 (by decide +kernel) rfl
theorem wm_157 : (Cond.methodLink "FloodingNetLaw" 78 ⟨"FloodingNet", "distance", "(II)I"⟩) ∈ gw := gw_at 157 (by decide +kernel) rfl
theorem wm_158 : (Cond.instanceMethod ⟨"FloodingNet", "distance", "(II)I"⟩) ∈ gw := gw_at 158 (by decide +kernel) rfl
theorem wm_159 : (Cond.selects "FloodingNet" ⟨"FloodingNet", "distance", "(II)I"⟩ ⟨"FloodingNet", "distance", "(II)I"⟩) ∈ gw := gw_at 159 (by decide +kernel) rfl
theorem wm_160 : (Cond.code ⟨"FloodingNet", "distance", "(II)I"⟩ prog_1_method_10_code 3 (some FieldType.int)) ∈ gw := gw_at 160 (by decide +kernel) rfl
theorem wm_161 : (Cond.methodLink "FloodingNet" 149 ⟨"FloodingNet", "measureWays", "(II)V"⟩) ∈ gw := gw_at 161 (by decide +kernel) rfl
theorem wm_163 : (Cond.instanceMethod ⟨"FloodingNet", "measureWays", "(II)V"⟩) ∈ gw := gw_at 163 (by decide +kernel) rfl
theorem wm_164 : (Cond.code ⟨"FloodingNet", "measureWays", "(II)V"⟩ prog_1_method_37_code 7 none) ∈ gw := gw_at 164 (by decide +kernel) rfl
theorem wm_165 : (Cond.methodLink "FloodingNet" 236 ⟨"FloodingNet", "stepCost", "(III)I"⟩) ∈ gw := gw_at 165 (by decide +kernel) rfl
theorem wm_167 : (Cond.instanceMethod ⟨"FloodingNet", "stepCost", "(III)I"⟩) ∈ gw := gw_at 167 (by decide +kernel) rfl
theorem wm_168 : (Cond.code ⟨"FloodingNet", "stepCost", "(III)I"⟩ prog_1_method_38_code 5 (some FieldType.int)) ∈ gw := gw_at 168 (by decide +kernel) rfl
theorem wm_169 : (Cond.methodLink "FloodingNetLaw" 83 ⟨"FloodingNet", "next", "(II)I"⟩) ∈ gw := gw_at 169 (by decide +kernel) rfl
theorem wm_170 : (Cond.instanceMethod ⟨"FloodingNet", "next", "(II)I"⟩) ∈ gw := gw_at 170 (by decide +kernel) rfl
theorem wm_171 : (Cond.selects "FloodingNet" ⟨"FloodingNet", "next", "(II)I"⟩ ⟨"FloodingNet", "next", "(II)I"⟩) ∈ gw := gw_at 171 (by decide +kernel) rfl
theorem wm_172 : (Cond.code ⟨"FloodingNet", "next", "(II)I"⟩ prog_1_method_11_code 3 (some FieldType.int)) ∈ gw := gw_at 172 (by decide +kernel) rfl
theorem wm_173 : (Cond.methodLink "FloodingNet" 152 ⟨"FloodingNet", "nextHop", "(II)I"⟩) ∈ gw := gw_at 173 (by decide +kernel) rfl
theorem wm_175 : (Cond.instanceMethod ⟨"FloodingNet", "nextHop", "(II)I"⟩) ∈ gw := gw_at 175 (by decide +kernel) rfl
theorem wm_176 : (Cond.code ⟨"FloodingNet", "nextHop", "(II)I"⟩ prog_1_method_36_code 5 (some FieldType.int)) ∈ gw := gw_at 176 (by decide +kernel) rfl
theorem wm_177 : (Cond.methodLink "FloodingNetLaw" 91 ⟨"FloodingNet", "packet", "(II)I"⟩) ∈ gw := gw_at 177 (by decide +kernel) rfl
theorem wm_178 : (Cond.instanceMethod ⟨"FloodingNet", "packet", "(II)I"⟩) ∈ gw := gw_at 178 (by decide +kernel) rfl
theorem wm_179 : (Cond.selects "FloodingNet" ⟨"FloodingNet", "packet", "(II)I"⟩ ⟨"FloodingNet", "packet", "(II)I"⟩) ∈ gw := gw_at 179 (by decide +kernel) rfl
theorem wm_180 : (Cond.code ⟨"FloodingNet", "packet", "(II)I"⟩ prog_1_method_13_code 4 (some FieldType.int)) ∈ gw := gw_at 180 (by decide +kernel) rfl
theorem wm_181 : (Cond.methodLink "FloodingNetLaw" 95 ⟨"FloodingNet", "settled", "()Z"⟩) ∈ gw := gw_at 181 (by decide +kernel) rfl
theorem wm_182 : (Cond.instanceMethod ⟨"FloodingNet", "settled", "()Z"⟩) ∈ gw := gw_at 182 (by decide +kernel) rfl
theorem wm_183 : (Cond.selects "FloodingNet" ⟨"FloodingNet", "settled", "()Z"⟩ ⟨"FloodingNet", "settled", "()Z"⟩) ∈ gw := gw_at 183 (by decide +kernel) rfl
theorem wm_184 : (Cond.code ⟨"FloodingNet", "settled", "()Z"⟩ prog_1_method_14_code 2 (some FieldType.boolean)) ∈ gw := gw_at 184 (by decide +kernel) rfl
theorem wm_185 : (Cond.methodLink "FloodingNet" 180 ⟨"FloodingNet", "agreeOn", "(I)Z"⟩) ∈ gw := gw_at 185 (by decide +kernel) rfl
theorem wm_187 : (Cond.instanceMethod ⟨"FloodingNet", "agreeOn", "(I)Z"⟩) ∈ gw := gw_at 187 (by decide +kernel) rfl
theorem wm_188 : (Cond.code ⟨"FloodingNet", "agreeOn", "(I)Z"⟩ prog_1_method_39_code 5 (some FieldType.boolean)) ∈ gw := gw_at 188 (by decide +kernel) rfl
theorem wm_189 : (Cond.methodLink "FloodingNet" 239 ⟨"FloodingNet", "joinedWith", "(I)I"⟩) ∈ gw := gw_at 189 (by decide +kernel) rfl
theorem wm_191 : (Cond.instanceMethod ⟨"FloodingNet", "joinedWith", "(I)I"⟩) ∈ gw := gw_at 191 (by decide +kernel) rfl
theorem wm_192 : (Cond.code ⟨"FloodingNet", "joinedWith", "(I)I"⟩ prog_1_method_40_code 5 (some FieldType.int)) ∈ gw := gw_at 192 (by decide +kernel) rfl
theorem wm_193 : (Cond.methodLink "FloodingNet" 242 ⟨"FloodingNet", "neighbours", "(I)I"⟩) ∈ gw := gw_at 193 (by decide +kernel) rfl
theorem wm_195 : (Cond.instanceMethod ⟨"FloodingNet", "neighbours", "(I)I"⟩) ∈ gw := gw_at 195 (by decide +kernel) rfl
theorem wm_196 : (Cond.code ⟨"FloodingNet", "neighbours", "(I)I"⟩ prog_1_method_41_code 4 (some FieldType.int)) ∈ gw := gw_at 196 (by decide +kernel) rfl
theorem wm_197 : (Cond.methodLink "FloodingNet" 101 ⟨"FloodingNet", "carries", "(II)Z"⟩) ∈ gw := gw_at 197 (by decide +kernel) rfl
theorem wm_199 : (Cond.instanceMethod ⟨"FloodingNet", "carries", "(II)Z"⟩) ∈ gw := gw_at 199 (by decide +kernel) rfl
theorem wm_200 : (Cond.code ⟨"FloodingNet", "carries", "(II)Z"⟩ prog_1_method_20_code 3 (some FieldType.boolean)) ∈ gw := gw_at 200 (by decide +kernel) rfl
theorem wm_201 : (Cond.methodLink "FloodingNet" 86 ⟨"FloodingNet", "pair", "(II)I"⟩) ∈ gw := gw_at 201 (by decide +kernel) rfl
theorem wm_202 : (Cond.static ⟨"FloodingNet", "pair", "(II)I"⟩) ∈ gw := gw_at 202 (by decide +kernel) rfl
theorem wm_203 : (Cond.code ⟨"FloodingNet", "pair", "(II)I"⟩ prog_1_method_16_code 2 (some FieldType.int)) ∈ gw := gw_at 203 (by decide +kernel) rfl
theorem wm_204 : (Cond.methodLink "FloodingNetLaw" 43 ⟨"FloodingNetLaw", "link", "(LFloodingNet;IIII[J)I"⟩) ∈ gw := gw_at 204 (by decide +kernel) rfl
theorem wm_205 : (Cond.static ⟨"FloodingNetLaw", "link", "(LFloodingNet;IIII[J)I"⟩) ∈ gw := gw_at 205 (by decide +kernel) rfl
theorem wm_206 : (Cond.codeWith ⟨"FloodingNetLaw", "link", "(LFloodingNet;IIII[J)I"⟩ method_3_code 7 (some FieldType.int) [(0, 14, 17, 13), (0, 14, 21, 15)]) ∈ gw := gw_at 206 (by decide +kernel) rfl
theorem wm_207 : (Cond.classLink "FloodingNetLaw" 13 "java/lang/IllegalArgumentException") ∈ gw := gw_at 207 (by decide +kernel) rfl
theorem wm_208 : (Cond.classLink "FloodingNetLaw" 15 "java/lang/IllegalStateException") ∈ gw := gw_at 208 (by decide +kernel) rfl
theorem wm_209 : (Cond.methodLink "FloodingNetLaw" 7 ⟨"FloodingNet", "link", "(IIII)I"⟩) ∈ gw := gw_at 209 (by decide +kernel) rfl
theorem wm_210 : (Cond.instanceMethod ⟨"FloodingNet", "link", "(IIII)I"⟩) ∈ gw := gw_at 210 (by decide +kernel) rfl
theorem wm_211 : (Cond.selects "FloodingNet" ⟨"FloodingNet", "link", "(IIII)I"⟩ ⟨"FloodingNet", "link", "(IIII)I"⟩) ∈ gw := gw_at 211 (by decide +kernel) rfl
theorem wm_212 : (Cond.code ⟨"FloodingNet", "link", "(IIII)I"⟩ prog_1_method_2_code 5 (some FieldType.int)) ∈ gw := gw_at 212 (by decide +kernel) rfl
theorem wm_213 : (Cond.classLink "FloodingNet" 54 "java/lang/IllegalArgumentException") ∈ gw := gw_at 213 (by decide +kernel) rfl
theorem wm_214 : (Cond.instantiable "java/lang/IllegalArgumentException" 6) ∈ gw := gw_at 214 (by decide +kernel) rfl
theorem wm_222 : (Cond.selects "java/lang/IllegalArgumentException" ⟨"java/lang/Throwable", "fillInStackTrace", "(I)Ljava/lang/Throwable;"⟩ ⟨"java/lang/Throwable", "fillInStackTrace", "(I)Ljava/lang/Throwable;"⟩) ∈ gw := gw_at 222 (by decide +kernel) rfl
theorem wm_223 : (Cond.selects "java/lang/IllegalArgumentException" ⟨"java/lang/Throwable", "fillInStackTrace", "()Ljava/lang/Throwable;"⟩ ⟨"java/lang/Throwable", "fillInStackTrace", "()Ljava/lang/Throwable;"⟩) ∈ gw := gw_at 223 (by decide +kernel) rfl
theorem wm_234 : (Cond.fieldLink "java/lang/Throwable" 198 "java/lang/Throwable" "backtrace" "Ljava/lang/Object;") ∈ gw := gw_at 234 (by decide +kernel) rfl
theorem wm_236 : (Cond.instanceMethod ⟨"java/lang/Throwable", "<init>", "()V"⟩) ∈ gw := gw_at 236 (by decide +kernel) rfl
theorem wm_237 : (Cond.code ⟨"java/lang/Throwable", "<init>", "()V"⟩ prog_12_method_1_code 1 none) ∈ gw := gw_at 237 (by decide +kernel) rfl
theorem wm_238 : (Cond.methodLink "java/lang/Throwable" 1 ⟨"java/lang/Object", "<init>", "()V"⟩) ∈ gw := gw_at 238 (by decide +kernel) rfl
theorem wm_239 : (Cond.fieldLink "java/lang/Throwable" 13 "java/lang/Throwable" "UNASSIGNED_STACK" "[Ljava/lang/StackTraceElement;") ∈ gw := gw_at 239 (by decide +kernel) rfl
theorem wm_241 : (Cond.fieldLink "java/lang/Throwable" 20 "java/lang/Throwable" "SUPPRESSED_SENTINEL" "Ljava/util/List;") ∈ gw := gw_at 241 (by decide +kernel) rfl
theorem wm_243 : (Cond.methodLink "java/lang/Throwable" 27 ⟨"java/lang/Throwable", "fillInStackTrace", "()Ljava/lang/Throwable;"⟩) ∈ gw := gw_at 243 (by decide +kernel) rfl
theorem wm_244 : (Cond.instanceMethod ⟨"java/lang/Throwable", "fillInStackTrace", "()Ljava/lang/Throwable;"⟩) ∈ gw := gw_at 244 (by decide +kernel) rfl
theorem wm_246 : (Cond.selects "java/lang/IllegalStateException" ⟨"java/lang/Throwable", "fillInStackTrace", "()Ljava/lang/Throwable;"⟩ ⟨"java/lang/Throwable", "fillInStackTrace", "()Ljava/lang/Throwable;"⟩) ∈ gw := gw_at 246 (by decide +kernel) rfl
theorem wm_248 : (Cond.methodLink "java/lang/Throwable" 202 ⟨"java/lang/Throwable", "fillInStackTrace", "(I)Ljava/lang/Throwable;"⟩) ∈ gw := gw_at 248 (by decide +kernel) rfl
theorem wm_250 : (Cond.instanceMethod ⟨"java/lang/Throwable", "fillInStackTrace", "(I)Ljava/lang/Throwable;"⟩) ∈ gw := gw_at 250 (by decide +kernel) rfl
theorem wm_251 : (Cond.instantiable "java/lang/Throwable" 6) ∈ gw := gw_at 251 (by decide +kernel) rfl
theorem wn_253 : (Cond.stringRef "FloodingNet" 56 "a link joins two nodes") ∈ lw_tbl := List.mem_of_getElem? (i := 253) (by decide +kernel)
theorem wm_254 : (Cond.methodLink "FloodingNet" 58 ⟨"java/lang/IllegalArgumentException", "<init>", "(Ljava/lang/String;)V"⟩) ∈ gw := gw_at 254 (by decide +kernel) rfl
theorem wm_255 : (Cond.instanceMethod ⟨"java/lang/IllegalArgumentException", "<init>", "(Ljava/lang/String;)V"⟩) ∈ gw := gw_at 255 (by decide +kernel) rfl
theorem wm_256 : (Cond.code ⟨"java/lang/IllegalArgumentException", "<init>", "(Ljava/lang/String;)V"⟩ prog_7_method_2_code 2 none) ∈ gw := gw_at 256 (by decide +kernel) rfl
theorem wm_257 : (Cond.methodLink "java/lang/IllegalArgumentException" 7 ⟨"java/lang/RuntimeException", "<init>", "(Ljava/lang/String;)V"⟩) ∈ gw := gw_at 257 (by decide +kernel) rfl
theorem wm_258 : (Cond.instanceMethod ⟨"java/lang/RuntimeException", "<init>", "(Ljava/lang/String;)V"⟩) ∈ gw := gw_at 258 (by decide +kernel) rfl
theorem wm_259 : (Cond.code ⟨"java/lang/RuntimeException", "<init>", "(Ljava/lang/String;)V"⟩ prog_10_method_2_code 2 none) ∈ gw := gw_at 259 (by decide +kernel) rfl
theorem wm_260 : (Cond.methodLink "java/lang/RuntimeException" 7 ⟨"java/lang/Exception", "<init>", "(Ljava/lang/String;)V"⟩) ∈ gw := gw_at 260 (by decide +kernel) rfl
theorem wm_261 : (Cond.instanceMethod ⟨"java/lang/Exception", "<init>", "(Ljava/lang/String;)V"⟩) ∈ gw := gw_at 261 (by decide +kernel) rfl
theorem wm_262 : (Cond.code ⟨"java/lang/Exception", "<init>", "(Ljava/lang/String;)V"⟩ prog_6_method_2_code 2 none) ∈ gw := gw_at 262 (by decide +kernel) rfl
theorem wm_263 : (Cond.methodLink "java/lang/Exception" 7 ⟨"java/lang/Throwable", "<init>", "(Ljava/lang/String;)V"⟩) ∈ gw := gw_at 263 (by decide +kernel) rfl
theorem wm_264 : (Cond.instanceMethod ⟨"java/lang/Throwable", "<init>", "(Ljava/lang/String;)V"⟩) ∈ gw := gw_at 264 (by decide +kernel) rfl
theorem wm_265 : (Cond.code ⟨"java/lang/Throwable", "<init>", "(Ljava/lang/String;)V"⟩ prog_12_method_2_code 2 none) ∈ gw := gw_at 265 (by decide +kernel) rfl
theorem wm_267 : (Cond.fieldLink "java/lang/Throwable" 31 "java/lang/Throwable" "detailMessage" "Ljava/lang/String;") ∈ gw := gw_at 267 (by decide +kernel) rfl
theorem wm_268 : (Cond.fieldLink "java/lang/Throwable" 7 "java/lang/Throwable" "cause" "Ljava/lang/Throwable;") ∈ gw := gw_at 268 (by decide +kernel) rfl
theorem wm_269 : (Cond.fieldLink "java/lang/Throwable" 17 "java/lang/Throwable" "stackTrace" "[Ljava/lang/StackTraceElement;") ∈ gw := gw_at 269 (by decide +kernel) rfl
theorem wm_270 : (Cond.fieldLink "java/lang/Throwable" 24 "java/lang/Throwable" "suppressedExceptions" "Ljava/util/List;") ∈ gw := gw_at 270 (by decide +kernel) rfl
theorem wm_279 : (Cond.arrayClass FieldType.byte) ∈ gw := gw_at 279 (by decide +kernel) rfl
theorem wn_280 : (Cond.stringRef "FloodingNet" 61 "cost or delay out of bounds") ∈ lw_tbl := List.mem_of_getElem? (i := 280) (by decide +kernel)
theorem wm_281 : (Cond.methodLink "FloodingNet" 63 ⟨"FloodingNet", "hasLink", "(II)Z"⟩) ∈ gw := gw_at 281 (by decide +kernel) rfl
theorem wm_283 : (Cond.instanceMethod ⟨"FloodingNet", "hasLink", "(II)Z"⟩) ∈ gw := gw_at 283 (by decide +kernel) rfl
theorem wm_284 : (Cond.code ⟨"FloodingNet", "hasLink", "(II)Z"⟩ prog_1_method_19_code 3 (some FieldType.boolean)) ∈ gw := gw_at 284 (by decide +kernel) rfl
theorem wm_285 : (Cond.classLink "FloodingNet" 71 "java/lang/IllegalStateException") ∈ gw := gw_at 285 (by decide +kernel) rfl
theorem wm_286 : (Cond.instantiable "java/lang/IllegalStateException" 6) ∈ gw := gw_at 286 (by decide +kernel) rfl
theorem wm_288 : (Cond.selects "java/lang/IllegalStateException" ⟨"java/lang/Throwable", "fillInStackTrace", "(I)Ljava/lang/Throwable;"⟩ ⟨"java/lang/Throwable", "fillInStackTrace", "(I)Ljava/lang/Throwable;"⟩) ∈ gw := gw_at 288 (by decide +kernel) rfl
theorem wn_294 : (Cond.stringRef "FloodingNet" 73 "no room for this link") ∈ lw_tbl := List.mem_of_getElem? (i := 294) (by decide +kernel)
theorem wm_295 : (Cond.methodLink "FloodingNet" 75 ⟨"java/lang/IllegalStateException", "<init>", "(Ljava/lang/String;)V"⟩) ∈ gw := gw_at 295 (by decide +kernel) rfl
theorem wm_296 : (Cond.instanceMethod ⟨"java/lang/IllegalStateException", "<init>", "(Ljava/lang/String;)V"⟩) ∈ gw := gw_at 296 (by decide +kernel) rfl
theorem wm_297 : (Cond.code ⟨"java/lang/IllegalStateException", "<init>", "(Ljava/lang/String;)V"⟩ prog_8_method_2_code 2 none) ∈ gw := gw_at 297 (by decide +kernel) rfl
theorem wm_298 : (Cond.methodLink "java/lang/IllegalStateException" 7 ⟨"java/lang/RuntimeException", "<init>", "(Ljava/lang/String;)V"⟩) ∈ gw := gw_at 298 (by decide +kernel) rfl
theorem wm_301 : (Cond.methodLink "FloodingNet" 76 ⟨"FloodingNet", "putLink", "(IIII)V"⟩) ∈ gw := gw_at 301 (by decide +kernel) rfl
theorem wm_303 : (Cond.instanceMethod ⟨"FloodingNet", "putLink", "(IIII)V"⟩) ∈ gw := gw_at 303 (by decide +kernel) rfl
theorem wm_304 : (Cond.code ⟨"FloodingNet", "putLink", "(IIII)V"⟩ prog_1_method_21_code 5 none) ∈ gw := gw_at 304 (by decide +kernel) rfl
theorem wm_305 : (Cond.methodLink "FloodingNet" 80 ⟨"FloodingNet", "bringUp", "(II)V"⟩) ∈ gw := gw_at 305 (by decide +kernel) rfl
theorem wm_307 : (Cond.instanceMethod ⟨"FloodingNet", "bringUp", "(II)V"⟩) ∈ gw := gw_at 307 (by decide +kernel) rfl
theorem wm_308 : (Cond.code ⟨"FloodingNet", "bringUp", "(II)V"⟩ prog_1_method_22_code 5 none) ∈ gw := gw_at 308 (by decide +kernel) rfl
theorem wm_309 : (Cond.methodLink "FloodingNet" 183 ⟨"java/lang/Math", "min", "(II)I"⟩) ∈ gw := gw_at 309 (by decide +kernel) rfl
theorem wm_310 : (Cond.static ⟨"java/lang/Math", "min", "(II)I"⟩) ∈ gw := gw_at 310 (by decide +kernel) rfl
theorem wm_311 : (Cond.code ⟨"java/lang/Math", "min", "(II)I"⟩ prog_9_method_69_code 2 (some FieldType.int)) ∈ gw := gw_at 311 (by decide +kernel) rfl
theorem wm_312 : (Cond.methodLink "FloodingNet" 188 ⟨"java/lang/Math", "max", "(II)I"⟩) ∈ gw := gw_at 312 (by decide +kernel) rfl
theorem wm_313 : (Cond.static ⟨"java/lang/Math", "max", "(II)I"⟩) ∈ gw := gw_at 313 (by decide +kernel) rfl
theorem wm_314 : (Cond.code ⟨"java/lang/Math", "max", "(II)I"⟩ prog_9_method_65_code 2 (some FieldType.int)) ∈ gw := gw_at 314 (by decide +kernel) rfl
theorem wm_315 : (Cond.methodLink "FloodingNet" 98 ⟨"FloodingNet", "tell", "(I)V"⟩) ∈ gw := gw_at 315 (by decide +kernel) rfl
theorem wm_317 : (Cond.instanceMethod ⟨"FloodingNet", "tell", "(I)V"⟩) ∈ gw := gw_at 317 (by decide +kernel) rfl
theorem wm_318 : (Cond.code ⟨"FloodingNet", "tell", "(I)V"⟩ prog_1_method_26_code 2 none) ∈ gw := gw_at 318 (by decide +kernel) rfl
theorem wm_319 : (Cond.methodLink "FloodingNet" 198 ⟨"FloodingNet", "costsNow", "(I)J"⟩) ∈ gw := gw_at 319 (by decide +kernel) rfl
theorem wm_321 : (Cond.instanceMethod ⟨"FloodingNet", "costsNow", "(I)J"⟩) ∈ gw := gw_at 321 (by decide +kernel) rfl
theorem wm_322 : (Cond.code ⟨"FloodingNet", "costsNow", "(I)J"⟩ prog_1_method_27_code 5 (some FieldType.long)) ∈ gw := gw_at 322 (by decide +kernel) rfl
theorem wn_323 : (Cond.methodLinkNest "FloodingNet" 210 ⟨"FloodingNet$Pieces", "packed", "(II)J"⟩ "FloodingNet") ∈ lw_tbl := List.mem_of_getElem? (i := 323) (by decide +kernel)
theorem wm_324 : (Cond.static ⟨"FloodingNet$Pieces", "packed", "(II)J"⟩) ∈ gw := gw_at 324 (by decide +kernel) rfl
theorem wm_325 : (Cond.code ⟨"FloodingNet$Pieces", "packed", "(II)J"⟩ prog_3_method_2_code 2 (some FieldType.long)) ∈ gw := gw_at 325 (by decide +kernel) rfl
theorem wn_326 : (Cond.methodLinkNest "FloodingNet" 202 ⟨"FloodingNet$Pieces", "write", "(IIIJ)V"⟩ "FloodingNet") ∈ lw_tbl := List.mem_of_getElem? (i := 326) (by decide +kernel)
theorem wm_328 : (Cond.instanceMethod ⟨"FloodingNet$Pieces", "write", "(IIIJ)V"⟩) ∈ gw := gw_at 328 (by decide +kernel) rfl
theorem wm_329 : (Cond.code ⟨"FloodingNet$Pieces", "write", "(IIIJ)V"⟩ prog_3_method_3_code 6 none) ∈ gw := gw_at 329 (by decide +kernel) rfl
theorem wm_330 : (Cond.methodLink "FloodingNet" 206 ⟨"FloodingNet", "spread", "(III)V"⟩) ∈ gw := gw_at 330 (by decide +kernel) rfl
theorem wm_332 : (Cond.instanceMethod ⟨"FloodingNet", "spread", "(III)V"⟩) ∈ gw := gw_at 332 (by decide +kernel) rfl
theorem wm_333 : (Cond.code ⟨"FloodingNet", "spread", "(III)V"⟩ prog_1_method_28_code 5 none) ∈ gw := gw_at 333 (by decide +kernel) rfl
theorem wm_334 : (Cond.methodLink "FloodingNet" 214 ⟨"FloodingNet", "sendKnown", "(III)V"⟩) ∈ gw := gw_at 334 (by decide +kernel) rfl
theorem wm_336 : (Cond.instanceMethod ⟨"FloodingNet", "sendKnown", "(III)V"⟩) ∈ gw := gw_at 336 (by decide +kernel) rfl
theorem wm_337 : (Cond.code ⟨"FloodingNet", "sendKnown", "(III)V"⟩ prog_1_method_30_code 6 none) ∈ gw := gw_at 337 (by decide +kernel) rfl
theorem wm_338 : (Cond.methodLink "FloodingNet" 191 ⟨"FloodingNet", "flightRow", "(III)I"⟩) ∈ gw := gw_at 338 (by decide +kernel) rfl
theorem wm_339 : (Cond.static ⟨"FloodingNet", "flightRow", "(III)I"⟩) ∈ gw := gw_at 339 (by decide +kernel) rfl
theorem wm_340 : (Cond.code ⟨"FloodingNet", "flightRow", "(III)I"⟩ prog_1_method_18_code 3 (some FieldType.int)) ∈ gw := gw_at 340 (by decide +kernel) rfl
theorem wm_341 : (Cond.methodLink "FloodingNet" 104 ⟨"FloodingNet", "sendAllKnown", "(II)V"⟩) ∈ gw := gw_at 341 (by decide +kernel) rfl
theorem wm_343 : (Cond.instanceMethod ⟨"FloodingNet", "sendAllKnown", "(II)V"⟩) ∈ gw := gw_at 343 (by decide +kernel) rfl
theorem wm_344 : (Cond.code ⟨"FloodingNet", "sendAllKnown", "(II)V"⟩ prog_1_method_29_code 4 none) ∈ gw := gw_at 344 (by decide +kernel) rfl
theorem wm_345 : (Cond.methodLink "FloodingNetLaw" 53 ⟨"FloodingNetLaw", "fail", "(LFloodingNet;II[J)I"⟩) ∈ gw := gw_at 345 (by decide +kernel) rfl
theorem wm_346 : (Cond.static ⟨"FloodingNetLaw", "fail", "(LFloodingNet;II[J)I"⟩) ∈ gw := gw_at 346 (by decide +kernel) rfl
theorem wm_347 : (Cond.codeWith ⟨"FloodingNetLaw", "fail", "(LFloodingNet;II[J)I"⟩ method_4_code 5 (some FieldType.int) [(0, 17, 20, 13)]) ∈ gw := gw_at 347 (by decide +kernel) rfl
theorem wm_348 : (Cond.methodLink "FloodingNetLaw" 17 ⟨"FloodingNet", "fail", "(II)Z"⟩) ∈ gw := gw_at 348 (by decide +kernel) rfl
theorem wm_349 : (Cond.instanceMethod ⟨"FloodingNet", "fail", "(II)Z"⟩) ∈ gw := gw_at 349 (by decide +kernel) rfl
theorem wm_350 : (Cond.selects "FloodingNet" ⟨"FloodingNet", "fail", "(II)Z"⟩ ⟨"FloodingNet", "fail", "(II)Z"⟩) ∈ gw := gw_at 350 (by decide +kernel) rfl
theorem wm_351 : (Cond.code ⟨"FloodingNet", "fail", "(II)Z"⟩ prog_1_method_3_code 3 (some FieldType.boolean)) ∈ gw := gw_at 351 (by decide +kernel) rfl
theorem wn_352 : (Cond.stringRef "FloodingNet" 84 "no such link") ∈ lw_tbl := List.mem_of_getElem? (i := 352) (by decide +kernel)
theorem wm_353 : (Cond.methodLink "FloodingNet" 90 ⟨"FloodingNet", "takeDown", "(II)V"⟩) ∈ gw := gw_at 353 (by decide +kernel) rfl
theorem wm_355 : (Cond.instanceMethod ⟨"FloodingNet", "takeDown", "(II)V"⟩) ∈ gw := gw_at 355 (by decide +kernel) rfl
theorem wm_356 : (Cond.code ⟨"FloodingNet", "takeDown", "(II)V"⟩ prog_1_method_23_code 4 none) ∈ gw := gw_at 356 (by decide +kernel) rfl
theorem wm_357 : (Cond.methodLink "FloodingNet" 113 ⟨"FloodingNet", "emptyLink", "(II)V"⟩) ∈ gw := gw_at 357 (by decide +kernel) rfl
theorem wm_359 : (Cond.instanceMethod ⟨"FloodingNet", "emptyLink", "(II)V"⟩) ∈ gw := gw_at 359 (by decide +kernel) rfl
theorem wm_360 : (Cond.code ⟨"FloodingNet", "emptyLink", "(II)V"⟩ prog_1_method_24_code 7 none) ∈ gw := gw_at 360 (by decide +kernel) rfl
theorem wn_361 : (Cond.methodLinkNest "FloodingNet" 110 ⟨"FloodingNet$Pieces", "clear", "(I)V"⟩ "FloodingNet") ∈ lw_tbl := List.mem_of_getElem? (i := 361) (by decide +kernel)
theorem wm_363 : (Cond.instanceMethod ⟨"FloodingNet$Pieces", "clear", "(I)V"⟩) ∈ gw := gw_at 363 (by decide +kernel) rfl
theorem wm_364 : (Cond.code ⟨"FloodingNet$Pieces", "clear", "(I)V"⟩ prog_3_method_6_code 2 none) ∈ gw := gw_at 364 (by decide +kernel) rfl
theorem wn_365 : (Cond.methodLinkNest "FloodingNet" 195 ⟨"FloodingNet$Packet", "isOn", "(II)Z"⟩ "FloodingNet") ∈ lw_tbl := List.mem_of_getElem? (i := 365) (by decide +kernel)
theorem wm_367 : (Cond.instanceMethod ⟨"FloodingNet$Packet", "isOn", "(II)Z"⟩) ∈ gw := gw_at 367 (by decide +kernel) rfl
theorem wm_368 : (Cond.instantiable "FloodingNet$Packet" 8) ∈ gw := gw_at 368 (by decide +kernel) rfl
theorem wm_369 : (Cond.code ⟨"FloodingNet$Packet", "isOn", "(II)Z"⟩ prog_2_method_3_code 5 (some FieldType.boolean)) ∈ gw := gw_at 369 (by decide +kernel) rfl
theorem wm_370 : (Cond.methodLink "FloodingNetLaw" 57 ⟨"FloodingNetLaw", "restore", "(LFloodingNet;II[J)I"⟩) ∈ gw := gw_at 370 (by decide +kernel) rfl
theorem wm_371 : (Cond.static ⟨"FloodingNetLaw", "restore", "(LFloodingNet;II[J)I"⟩) ∈ gw := gw_at 371 (by decide +kernel) rfl
theorem wm_372 : (Cond.codeWith ⟨"FloodingNetLaw", "restore", "(LFloodingNet;II[J)I"⟩ method_5_code 5 (some FieldType.int) [(0, 17, 20, 13)]) ∈ gw := gw_at 372 (by decide +kernel) rfl
theorem wm_373 : (Cond.methodLink "FloodingNetLaw" 21 ⟨"FloodingNet", "restore", "(II)Z"⟩) ∈ gw := gw_at 373 (by decide +kernel) rfl
theorem wm_374 : (Cond.instanceMethod ⟨"FloodingNet", "restore", "(II)Z"⟩) ∈ gw := gw_at 374 (by decide +kernel) rfl
theorem wm_375 : (Cond.selects "FloodingNet" ⟨"FloodingNet", "restore", "(II)Z"⟩ ⟨"FloodingNet", "restore", "(II)Z"⟩) ∈ gw := gw_at 375 (by decide +kernel) rfl
theorem wm_376 : (Cond.code ⟨"FloodingNet", "restore", "(II)Z"⟩ prog_1_method_4_code 3 (some FieldType.boolean)) ∈ gw := gw_at 376 (by decide +kernel) rfl
theorem wm_377 : (Cond.methodLink "FloodingNetLaw" 60 ⟨"FloodingNetLaw", "start", "(LFloodingNet;I[J)I"⟩) ∈ gw := gw_at 377 (by decide +kernel) rfl
theorem wm_378 : (Cond.static ⟨"FloodingNetLaw", "start", "(LFloodingNet;I[J)I"⟩) ∈ gw := gw_at 378 (by decide +kernel) rfl
theorem wm_379 : (Cond.codeWith ⟨"FloodingNetLaw", "start", "(LFloodingNet;I[J)I"⟩ method_6_code 4 (some FieldType.int) [(0, 16, 19, 13)]) ∈ gw := gw_at 379 (by decide +kernel) rfl
theorem wm_380 : (Cond.methodLink "FloodingNetLaw" 24 ⟨"FloodingNet", "start", "(I)Z"⟩) ∈ gw := gw_at 380 (by decide +kernel) rfl
theorem wm_381 : (Cond.instanceMethod ⟨"FloodingNet", "start", "(I)Z"⟩) ∈ gw := gw_at 381 (by decide +kernel) rfl
theorem wm_382 : (Cond.selects "FloodingNet" ⟨"FloodingNet", "start", "(I)Z"⟩ ⟨"FloodingNet", "start", "(I)Z"⟩) ∈ gw := gw_at 382 (by decide +kernel) rfl
theorem wm_383 : (Cond.code ⟨"FloodingNet", "start", "(I)Z"⟩ prog_1_method_5_code 3 (some FieldType.boolean)) ∈ gw := gw_at 383 (by decide +kernel) rfl
theorem wn_384 : (Cond.stringRef "FloodingNet" 93 "no such node") ∈ lw_tbl := List.mem_of_getElem? (i := 384) (by decide +kernel)
theorem wm_385 : (Cond.methodLink "FloodingNet" 95 ⟨"FloodingNet", "tellNeighbours", "(I)V"⟩) ∈ gw := gw_at 385 (by decide +kernel) rfl
theorem wm_387 : (Cond.instanceMethod ⟨"FloodingNet", "tellNeighbours", "(I)V"⟩) ∈ gw := gw_at 387 (by decide +kernel) rfl
theorem wm_388 : (Cond.code ⟨"FloodingNet", "tellNeighbours", "(I)V"⟩ prog_1_method_25_code 3 none) ∈ gw := gw_at 388 (by decide +kernel) rfl
theorem wm_389 : (Cond.methodLink "FloodingNetLaw" 64 ⟨"FloodingNetLaw", "crash", "(LFloodingNet;I[J)I"⟩) ∈ gw := gw_at 389 (by decide +kernel) rfl
theorem wm_390 : (Cond.static ⟨"FloodingNetLaw", "crash", "(LFloodingNet;I[J)I"⟩) ∈ gw := gw_at 390 (by decide +kernel) rfl
theorem wm_391 : (Cond.codeWith ⟨"FloodingNetLaw", "crash", "(LFloodingNet;I[J)I"⟩ method_7_code 4 (some FieldType.int) [(0, 16, 19, 13)]) ∈ gw := gw_at 391 (by decide +kernel) rfl
theorem wm_392 : (Cond.methodLink "FloodingNetLaw" 28 ⟨"FloodingNet", "crash", "(I)Z"⟩) ∈ gw := gw_at 392 (by decide +kernel) rfl
theorem wm_393 : (Cond.instanceMethod ⟨"FloodingNet", "crash", "(I)Z"⟩) ∈ gw := gw_at 393 (by decide +kernel) rfl
theorem wm_394 : (Cond.selects "FloodingNet" ⟨"FloodingNet", "crash", "(I)Z"⟩ ⟨"FloodingNet", "crash", "(I)Z"⟩) ∈ gw := gw_at 394 (by decide +kernel) rfl
theorem wm_395 : (Cond.code ⟨"FloodingNet", "crash", "(I)Z"⟩ prog_1_method_6_code 3 (some FieldType.boolean)) ∈ gw := gw_at 395 (by decide +kernel) rfl
theorem wm_396 : (Cond.methodLink "FloodingNetLaw" 67 ⟨"FloodingNetLaw", "tick", "(LFloodingNet;I[J)I"⟩) ∈ gw := gw_at 396 (by decide +kernel) rfl
theorem wm_397 : (Cond.static ⟨"FloodingNetLaw", "tick", "(LFloodingNet;I[J)I"⟩) ∈ gw := gw_at 397 (by decide +kernel) rfl
theorem wm_398 : (Cond.codeWith ⟨"FloodingNetLaw", "tick", "(LFloodingNet;I[J)I"⟩ method_8_code 4 (some FieldType.int) [(0, 9, 12, 13)]) ∈ gw := gw_at 398 (by decide +kernel) rfl
theorem wm_399 : (Cond.methodLink "FloodingNetLaw" 31 ⟨"FloodingNet", "tick", "(I)I"⟩) ∈ gw := gw_at 399 (by decide +kernel) rfl
theorem wm_400 : (Cond.instanceMethod ⟨"FloodingNet", "tick", "(I)I"⟩) ∈ gw := gw_at 400 (by decide +kernel) rfl
theorem wm_401 : (Cond.selects "FloodingNet" ⟨"FloodingNet", "tick", "(I)I"⟩ ⟨"FloodingNet", "tick", "(I)I"⟩) ∈ gw := gw_at 401 (by decide +kernel) rfl
theorem wm_402 : (Cond.code ⟨"FloodingNet", "tick", "(I)I"⟩ prog_1_method_7_code 3 (some FieldType.int)) ∈ gw := gw_at 402 (by decide +kernel) rfl
theorem wn_403 : (Cond.stringRef "FloodingNet" 116 "1 to 50 ticks at once") ∈ lw_tbl := List.mem_of_getElem? (i := 403) (by decide +kernel)
theorem wn_404 : (Cond.methodLinkNest "FloodingNet" 121 ⟨"FloodingNet$Pieces", "clearBornUntil", "(I)V"⟩ "FloodingNet") ∈ lw_tbl := List.mem_of_getElem? (i := 404) (by decide +kernel)
theorem wm_406 : (Cond.instanceMethod ⟨"FloodingNet$Pieces", "clearBornUntil", "(I)V"⟩) ∈ gw := gw_at 406 (by decide +kernel) rfl
theorem wm_407 : (Cond.code ⟨"FloodingNet$Pieces", "clearBornUntil", "(I)V"⟩ prog_3_method_7_code 4 none) ∈ gw := gw_at 407 (by decide +kernel) rfl
theorem wm_408 : (Cond.methodLink "FloodingNet$Pieces" 30 ⟨"FloodingNet$Pieces", "clear", "(I)V"⟩) ∈ gw := gw_at 408 (by decide +kernel) rfl
theorem wm_409 : (Cond.methodLink "FloodingNet" 124 ⟨"FloodingNet", "tellAgain", "()V"⟩) ∈ gw := gw_at 409 (by decide +kernel) rfl
theorem wm_411 : (Cond.instanceMethod ⟨"FloodingNet", "tellAgain", "()V"⟩) ∈ gw := gw_at 411 (by decide +kernel) rfl
theorem wm_412 : (Cond.code ⟨"FloodingNet", "tellAgain", "()V"⟩ prog_1_method_31_code 3 none) ∈ gw := gw_at 412 (by decide +kernel) rfl
theorem wm_413 : (Cond.methodLink "FloodingNet" 127 ⟨"FloodingNet", "receiveArrivedNews", "()V"⟩) ∈ gw := gw_at 413 (by decide +kernel) rfl
theorem wm_415 : (Cond.instanceMethod ⟨"FloodingNet", "receiveArrivedNews", "()V"⟩) ∈ gw := gw_at 415 (by decide +kernel) rfl
theorem wm_416 : (Cond.code ⟨"FloodingNet", "receiveArrivedNews", "()V"⟩ prog_1_method_32_code 2 none) ∈ gw := gw_at 416 (by decide +kernel) rfl
theorem wm_417 : (Cond.methodLink "FloodingNet" 221 ⟨"FloodingNet", "receive", "(I)V"⟩) ∈ gw := gw_at 417 (by decide +kernel) rfl
theorem wm_419 : (Cond.instanceMethod ⟨"FloodingNet", "receive", "(I)V"⟩) ∈ gw := gw_at 419 (by decide +kernel) rfl
theorem wm_420 : (Cond.code ⟨"FloodingNet", "receive", "(I)V"⟩ prog_1_method_33_code 7 none) ∈ gw := gw_at 420 (by decide +kernel) rfl
theorem wm_421 : (Cond.methodLink "FloodingNet" 130 ⟨"FloodingNet", "movePackets", "()V"⟩) ∈ gw := gw_at 421 (by decide +kernel) rfl
theorem wm_423 : (Cond.instanceMethod ⟨"FloodingNet", "movePackets", "()V"⟩) ∈ gw := gw_at 423 (by decide +kernel) rfl
theorem wm_424 : (Cond.code ⟨"FloodingNet", "movePackets", "()V"⟩ prog_1_method_34_code 5 none) ∈ gw := gw_at 424 (by decide +kernel) rfl
theorem wm_425 : (Cond.methodLink "FloodingNet" 164 ⟨"FloodingNet", "handle", "(LFloodingNet$Packet;I)V"⟩) ∈ gw := gw_at 425 (by decide +kernel) rfl
theorem wm_427 : (Cond.instanceMethod ⟨"FloodingNet", "handle", "(LFloodingNet$Packet;I)V"⟩) ∈ gw := gw_at 427 (by decide +kernel) rfl
theorem wm_428 : (Cond.code ⟨"FloodingNet", "handle", "(LFloodingNet$Packet;I)V"⟩ prog_1_method_35_code 4 none) ∈ gw := gw_at 428 (by decide +kernel) rfl
theorem wn_429 : (Cond.methodLinkNest "FloodingNet" 230 ⟨"FloodingNet$Packet", "visit", "(I)V"⟩ "FloodingNet") ∈ lw_tbl := List.mem_of_getElem? (i := 429) (by decide +kernel)
theorem wm_431 : (Cond.instanceMethod ⟨"FloodingNet$Packet", "visit", "(I)V"⟩) ∈ gw := gw_at 431 (by decide +kernel) rfl
theorem wm_432 : (Cond.code ⟨"FloodingNet$Packet", "visit", "(I)V"⟩ prog_2_method_2_code 2 none) ∈ gw := gw_at 432 (by decide +kernel) rfl
theorem wm_433 : (Cond.methodLink "FloodingNetLaw" 87 ⟨"FloodingNetLaw", "send", "(LFloodingNet;III[J)I"⟩) ∈ gw := gw_at 433 (by decide +kernel) rfl
theorem wm_434 : (Cond.static ⟨"FloodingNetLaw", "send", "(LFloodingNet;III[J)I"⟩) ∈ gw := gw_at 434 (by decide +kernel) rfl
theorem wm_435 : (Cond.codeWith ⟨"FloodingNetLaw", "send", "(LFloodingNet;III[J)I"⟩ method_9_code 6 (some FieldType.int) [(0, 12, 15, 13), (0, 12, 19, 15)]) ∈ gw := gw_at 435 (by decide +kernel) rfl
theorem wm_436 : (Cond.methodLink "FloodingNetLaw" 35 ⟨"FloodingNet", "send", "(III)I"⟩) ∈ gw := gw_at 436 (by decide +kernel) rfl
theorem wm_437 : (Cond.instanceMethod ⟨"FloodingNet", "send", "(III)I"⟩) ∈ gw := gw_at 437 (by decide +kernel) rfl
theorem wm_438 : (Cond.selects "FloodingNet" ⟨"FloodingNet", "send", "(III)I"⟩ ⟨"FloodingNet", "send", "(III)I"⟩) ∈ gw := gw_at 438 (by decide +kernel) rfl
theorem wm_439 : (Cond.code ⟨"FloodingNet", "send", "(III)I"⟩ prog_1_method_12_code 5 (some FieldType.int)) ∈ gw := gw_at 439 (by decide +kernel) rfl
theorem wn_440 : (Cond.stringRef "FloodingNet" 155 "no such nodes, or life out of bounds") ∈ lw_tbl := List.mem_of_getElem? (i := 440) (by decide +kernel)
theorem wn_441 : (Cond.stringRef "FloodingNet" 160 "the node is not there, or all packets are used") ∈ lw_tbl := List.mem_of_getElem? (i := 441) (by decide +kernel)
theorem wn_442 : (Cond.methodLinkNest "FloodingNet" 162 ⟨"FloodingNet$Packet", "<init>", "(II)V"⟩ "FloodingNet") ∈ lw_tbl := List.mem_of_getElem? (i := 442) (by decide +kernel)
theorem wm_443 : (Cond.instanceMethod ⟨"FloodingNet$Packet", "<init>", "(II)V"⟩) ∈ gw := gw_at 443 (by decide +kernel) rfl
theorem wm_444 : (Cond.code ⟨"FloodingNet$Packet", "<init>", "(II)V"⟩ prog_2_method_1_code 3 none) ∈ gw := gw_at 444 (by decide +kernel) rfl
theorem wm_445 : (Cond.methodLink "FloodingNet$Packet" 3 ⟨"java/lang/Object", "<init>", "()V"⟩) ∈ gw := gw_at 445 (by decide +kernel) rfl
theorem wm_446 : (Cond.fieldLink "FloodingNet$Packet" 9 "FloodingNet$Packet" "goal" "I") ∈ gw := gw_at 446 (by decide +kernel) rfl
theorem wn_447 : (Cond.fieldLinkNest "FloodingNet" 233 "FloodingNet$Packet" "goal" "I" "FloodingNet") ∈ lw_tbl := List.mem_of_getElem? (i := 447) (by decide +kernel)
theorem wm_448 : (Cond.fieldLink "FloodingNet$Packet" 18 "FloodingNet$Packet" "trace" "[I") ∈ gw := gw_at 448 (by decide +kernel) rfl
theorem wn_449 : (Cond.fieldLinkNest "FloodingNet" 177 "FloodingNet$Packet" "trace" "[I" "FloodingNet") ∈ lw_tbl := List.mem_of_getElem? (i := 449) (by decide +kernel)
theorem wm_450 : (Cond.fieldLink "FloodingNet$Packet" 28 "FloodingNet$Packet" "traceLength" "I") ∈ gw := gw_at 450 (by decide +kernel) rfl
theorem wn_451 : (Cond.fieldLinkNest "FloodingNet" 174 "FloodingNet$Packet" "traceLength" "I" "FloodingNet") ∈ lw_tbl := List.mem_of_getElem? (i := 451) (by decide +kernel)
theorem wm_452 : (Cond.fieldLink "FloodingNet$Packet" 15 "FloodingNet$Packet" "life" "I") ∈ gw := gw_at 452 (by decide +kernel) rfl
theorem wn_453 : (Cond.fieldLinkNest "FloodingNet" 171 "FloodingNet$Packet" "life" "I" "FloodingNet") ∈ lw_tbl := List.mem_of_getElem? (i := 453) (by decide +kernel)
theorem wm_454 : (Cond.fieldLink "FloodingNet$Packet" 22 "FloodingNet$Packet" "state" "I") ∈ gw := gw_at 454 (by decide +kernel) rfl
theorem wn_455 : (Cond.fieldLinkNest "FloodingNet" 168 "FloodingNet$Packet" "state" "I" "FloodingNet") ∈ lw_tbl := List.mem_of_getElem? (i := 455) (by decide +kernel)
theorem wm_456 : (Cond.fieldLink "FloodingNet$Packet" 25 "FloodingNet$Packet" "last" "I") ∈ gw := gw_at 456 (by decide +kernel) rfl
theorem wm_457 : (Cond.fieldLink "FloodingNet$Packet" 31 "FloodingNet$Packet" "towards" "I") ∈ gw := gw_at 457 (by decide +kernel) rfl
theorem wn_458 : (Cond.fieldLinkNest "FloodingNet" 227 "FloodingNet$Packet" "towards" "I" "FloodingNet") ∈ lw_tbl := List.mem_of_getElem? (i := 458) (by decide +kernel)
theorem wn_459 : (Cond.fieldLinkNest "FloodingNet" 224 "FloodingNet$Packet" "arrival" "I" "FloodingNet") ∈ lw_tbl := List.mem_of_getElem? (i := 459) (by decide +kernel)
theorem wm_477 : (Cond.classLink "FloodingNetLaw" 40 "FloodingNetModel") ∈ gw := gw_at 477 (by decide +kernel) rfl
theorem wm_478 : (Cond.instantiable "FloodingNetModel" 27) ∈ gw := gw_at 478 (by decide +kernel) rfl
theorem wm_479 : (Cond.methodLink "FloodingNetLaw" 42 ⟨"FloodingNetModel", "<init>", "()V"⟩) ∈ gw := gw_at 479 (by decide +kernel) rfl
theorem wm_480 : (Cond.instanceMethod ⟨"FloodingNetModel", "<init>", "()V"⟩) ∈ gw := gw_at 480 (by decide +kernel) rfl
theorem wm_481 : (Cond.code ⟨"FloodingNetModel", "<init>", "()V"⟩ prog_5_method_1_code 1 none) ∈ gw := gw_at 481 (by decide +kernel) rfl
theorem wm_482 : (Cond.methodLink "FloodingNetModel" 1 ⟨"java/lang/Object", "<init>", "()V"⟩) ∈ gw := gw_at 482 (by decide +kernel) rfl
theorem wm_483 : (Cond.fieldLink "FloodingNetModel" 80 "FloodingNetModel" "thrown" "I") ∈ gw := gw_at 483 (by decide +kernel) rfl
theorem wm_484 : (Cond.fieldLink "FloodingNetModel" 96 "FloodingNetModel" "time" "I") ∈ gw := gw_at 484 (by decide +kernel) rfl
theorem wm_485 : (Cond.fieldLink "FloodingNetModel" 7 "FloodingNetModel" "there" "[Z") ∈ gw := gw_at 485 (by decide +kernel) rfl
theorem wm_486 : (Cond.fieldLink "FloodingNetModel" 13 "FloodingNetModel" "made" "[I") ∈ gw := gw_at 486 (by decide +kernel) rfl
theorem wm_487 : (Cond.fieldLink "FloodingNetModel" 114 "FloodingNetModel" "links" "I") ∈ gw := gw_at 487 (by decide +kernel) rfl
theorem wm_488 : (Cond.fieldLink "FloodingNetModel" 17 "FloodingNetModel" "joined" "[Z") ∈ gw := gw_at 488 (by decide +kernel) rfl
theorem wm_489 : (Cond.fieldLink "FloodingNetModel" 20 "FloodingNetModel" "costs" "[I") ∈ gw := gw_at 489 (by decide +kernel) rfl
theorem wm_490 : (Cond.fieldLink "FloodingNetModel" 23 "FloodingNetModel" "delays" "[I") ∈ gw := gw_at 490 (by decide +kernel) rfl
theorem wm_491 : (Cond.fieldLink "FloodingNetModel" 26 "FloodingNetModel" "up" "[Z") ∈ gw := gw_at 491 (by decide +kernel) rfl
theorem wm_492 : (Cond.fieldLink "FloodingNetModel" 29 "FloodingNetModel" "numbers" "[I") ∈ gw := gw_at 492 (by decide +kernel) rfl
theorem wm_493 : (Cond.fieldLink "FloodingNetModel" 32 "FloodingNetModel" "ages" "[I") ∈ gw := gw_at 493 (by decide +kernel) rfl
theorem wm_494 : (Cond.fieldLink "FloodingNetModel" 35 "FloodingNetModel" "tells" "[I") ∈ gw := gw_at 494 (by decide +kernel) rfl
theorem wm_495 : (Cond.fieldLink "FloodingNetModel" 38 "FloodingNetModel" "flightNumbers" "[I") ∈ gw := gw_at 495 (by decide +kernel) rfl
theorem wm_496 : (Cond.fieldLink "FloodingNetModel" 41 "FloodingNetModel" "flightAges" "[I") ∈ gw := gw_at 496 (by decide +kernel) rfl
theorem wm_497 : (Cond.fieldLink "FloodingNetModel" 44 "FloodingNetModel" "flightTimes" "[I") ∈ gw := gw_at 497 (by decide +kernel) rfl
theorem wm_498 : (Cond.fieldLink "FloodingNetModel" 47 "FloodingNetModel" "flightTells" "[I") ∈ gw := gw_at 498 (by decide +kernel) rfl
theorem wm_499 : (Cond.fieldLink "FloodingNetModel" 107 "FloodingNetModel" "packets" "I") ∈ gw := gw_at 499 (by decide +kernel) rfl
theorem wm_500 : (Cond.fieldLink "FloodingNetModel" 50 "FloodingNetModel" "targets" "[I") ∈ gw := gw_at 500 (by decide +kernel) rfl
theorem wm_501 : (Cond.fieldLink "FloodingNetModel" 53 "FloodingNetModel" "lives" "[I") ∈ gw := gw_at 501 (by decide +kernel) rfl
theorem wm_502 : (Cond.fieldLink "FloodingNetModel" 56 "FloodingNetModel" "states" "[I") ∈ gw := gw_at 502 (by decide +kernel) rfl
theorem wm_503 : (Cond.fieldLink "FloodingNetModel" 59 "FloodingNetModel" "comesFrom" "[I") ∈ gw := gw_at 503 (by decide +kernel) rfl
theorem wm_504 : (Cond.fieldLink "FloodingNetModel" 62 "FloodingNetModel" "comesTo" "[I") ∈ gw := gw_at 504 (by decide +kernel) rfl
theorem wm_505 : (Cond.fieldLink "FloodingNetModel" 65 "FloodingNetModel" "comesAt" "[I") ∈ gw := gw_at 505 (by decide +kernel) rfl
theorem wm_506 : (Cond.fieldLink "FloodingNetModel" 68 "FloodingNetModel" "traceCounts" "[I") ∈ gw := gw_at 506 (by decide +kernel) rfl
theorem wm_507 : (Cond.fieldLink "FloodingNetModel" 71 "FloodingNetModel" "traces" "[I") ∈ gw := gw_at 507 (by decide +kernel) rfl
theorem wm_508 : (Cond.fieldLink "FloodingNetModel" 74 "FloodingNetModel" "far" "[I") ∈ gw := gw_at 508 (by decide +kernel) rfl
theorem wm_509 : (Cond.fieldLink "FloodingNetModel" 77 "FloodingNetModel" "together" "[Z") ∈ gw := gw_at 509 (by decide +kernel) rfl
theorem wm_565 : (Cond.methodLink "FloodingNetLaw" 49 ⟨"FloodingNetModel", "thrown", "()I"⟩) ∈ gw := gw_at 565 (by decide +kernel) rfl
theorem wm_566 : (Cond.instanceMethod ⟨"FloodingNetModel", "thrown", "()I"⟩) ∈ gw := gw_at 566 (by decide +kernel) rfl
theorem wm_567 : (Cond.selects "FloodingNetModel" ⟨"FloodingNetModel", "thrown", "()I"⟩ ⟨"FloodingNetModel", "thrown", "()I"⟩) ∈ gw := gw_at 567 (by decide +kernel) rfl
theorem wm_568 : (Cond.code ⟨"FloodingNetModel", "thrown", "()I"⟩ prog_5_method_2_code 1 (some FieldType.int)) ∈ gw := gw_at 568 (by decide +kernel) rfl
theorem wm_569 : (Cond.methodLink "FloodingNetLaw" 48 ⟨"FloodingNetModel", "link", "(IIII)I"⟩) ∈ gw := gw_at 569 (by decide +kernel) rfl
theorem wm_570 : (Cond.instanceMethod ⟨"FloodingNetModel", "link", "(IIII)I"⟩) ∈ gw := gw_at 570 (by decide +kernel) rfl
theorem wm_571 : (Cond.selects "FloodingNetModel" ⟨"FloodingNetModel", "link", "(IIII)I"⟩ ⟨"FloodingNetModel", "link", "(IIII)I"⟩) ∈ gw := gw_at 571 (by decide +kernel) rfl
theorem wm_572 : (Cond.code ⟨"FloodingNetModel", "link", "(IIII)I"⟩ prog_5_method_14_code 6 (some FieldType.int)) ∈ gw := gw_at 572 (by decide +kernel) rfl
theorem wm_573 : (Cond.methodLink "FloodingNetModel" 88 ⟨"FloodingNetModel", "isNode", "(I)Z"⟩) ∈ gw := gw_at 573 (by decide +kernel) rfl
theorem wm_574 : (Cond.static ⟨"FloodingNetModel", "isNode", "(I)Z"⟩) ∈ gw := gw_at 574 (by decide +kernel) rfl
theorem wm_575 : (Cond.code ⟨"FloodingNetModel", "isNode", "(I)Z"⟩ prog_5_method_5_code 1 (some FieldType.boolean)) ∈ gw := gw_at 575 (by decide +kernel) rfl
theorem wm_576 : (Cond.methodLink "FloodingNetModel" 84 ⟨"FloodingNetModel", "in", "(III)Z"⟩) ∈ gw := gw_at 576 (by decide +kernel) rfl
theorem wm_577 : (Cond.static ⟨"FloodingNetModel", "in", "(III)Z"⟩) ∈ gw := gw_at 577 (by decide +kernel) rfl
theorem wm_578 : (Cond.code ⟨"FloodingNetModel", "in", "(III)Z"⟩ prog_5_method_4_code 3 (some FieldType.boolean)) ∈ gw := gw_at 578 (by decide +kernel) rfl
theorem wm_579 : (Cond.methodLink "FloodingNetModel" 117 ⟨"FloodingNetModel", "goes", "(ZZ)Z"⟩) ∈ gw := gw_at 579 (by decide +kernel) rfl
theorem wm_581 : (Cond.instanceMethod ⟨"FloodingNetModel", "goes", "(ZZ)Z"⟩) ∈ gw := gw_at 581 (by decide +kernel) rfl
theorem wm_582 : (Cond.code ⟨"FloodingNetModel", "goes", "(ZZ)Z"⟩ prog_5_method_3_code 3 (some FieldType.boolean)) ∈ gw := gw_at 582 (by decide +kernel) rfl
theorem wm_583 : (Cond.methodLink "FloodingNetModel" 121 ⟨"FloodingNetModel", "comeUp", "(II)V"⟩) ∈ gw := gw_at 583 (by decide +kernel) rfl
theorem wm_585 : (Cond.instanceMethod ⟨"FloodingNetModel", "comeUp", "(II)V"⟩) ∈ gw := gw_at 585 (by decide +kernel) rfl
theorem wm_586 : (Cond.code ⟨"FloodingNetModel", "comeUp", "(II)V"⟩ prog_5_method_13_code 5 none) ∈ gw := gw_at 586 (by decide +kernel) rfl
theorem wm_587 : (Cond.methodLink "FloodingNetModel" 103 ⟨"FloodingNetModel", "tell", "(I)V"⟩) ∈ gw := gw_at 587 (by decide +kernel) rfl
theorem wm_589 : (Cond.instanceMethod ⟨"FloodingNetModel", "tell", "(I)V"⟩) ∈ gw := gw_at 589 (by decide +kernel) rfl
theorem wm_590 : (Cond.code ⟨"FloodingNetModel", "tell", "(I)V"⟩ prog_5_method_9_code 4 none) ∈ gw := gw_at 590 (by decide +kernel) rfl
theorem wm_591 : (Cond.methodLink "FloodingNetModel" 92 ⟨"FloodingNetModel", "carries", "(II)Z"⟩) ∈ gw := gw_at 591 (by decide +kernel) rfl
theorem wm_593 : (Cond.instanceMethod ⟨"FloodingNetModel", "carries", "(II)Z"⟩) ∈ gw := gw_at 593 (by decide +kernel) rfl
theorem wm_594 : (Cond.code ⟨"FloodingNetModel", "carries", "(II)Z"⟩ prog_5_method_7_code 3 (some FieldType.boolean)) ∈ gw := gw_at 594 (by decide +kernel) rfl
theorem wm_595 : (Cond.methodLink "FloodingNetModel" 99 ⟨"FloodingNetModel", "pass", "(III)V"⟩) ∈ gw := gw_at 595 (by decide +kernel) rfl
theorem wm_597 : (Cond.instanceMethod ⟨"FloodingNetModel", "pass", "(III)V"⟩) ∈ gw := gw_at 597 (by decide +kernel) rfl
theorem wm_598 : (Cond.code ⟨"FloodingNetModel", "pass", "(III)V"⟩ prog_5_method_8_code 7 none) ∈ gw := gw_at 598 (by decide +kernel) rfl
theorem wm_599 : (Cond.methodLink "FloodingNetModel" 110 ⟨"FloodingNetModel", "sendAll", "(II)V"⟩) ∈ gw := gw_at 599 (by decide +kernel) rfl
theorem wm_601 : (Cond.instanceMethod ⟨"FloodingNetModel", "sendAll", "(II)V"⟩) ∈ gw := gw_at 601 (by decide +kernel) rfl
theorem wm_602 : (Cond.code ⟨"FloodingNetModel", "sendAll", "(II)V"⟩ prog_5_method_10_code 4 none) ∈ gw := gw_at 602 (by decide +kernel) rfl
theorem wm_603 : (Cond.methodLink "FloodingNetLaw" 56 ⟨"FloodingNetModel", "fail", "(II)Z"⟩) ∈ gw := gw_at 603 (by decide +kernel) rfl
theorem wm_604 : (Cond.instanceMethod ⟨"FloodingNetModel", "fail", "(II)Z"⟩) ∈ gw := gw_at 604 (by decide +kernel) rfl
theorem wm_605 : (Cond.selects "FloodingNetModel" ⟨"FloodingNetModel", "fail", "(II)Z"⟩ ⟨"FloodingNetModel", "fail", "(II)Z"⟩) ∈ gw := gw_at 605 (by decide +kernel) rfl
theorem wm_606 : (Cond.code ⟨"FloodingNetModel", "fail", "(II)Z"⟩ prog_5_method_15_code 3 (some FieldType.boolean)) ∈ gw := gw_at 606 (by decide +kernel) rfl
theorem wm_607 : (Cond.methodLink "FloodingNetModel" 124 ⟨"FloodingNetModel", "haveLink", "(II)Z"⟩) ∈ gw := gw_at 607 (by decide +kernel) rfl
theorem wm_609 : (Cond.instanceMethod ⟨"FloodingNetModel", "haveLink", "(II)Z"⟩) ∈ gw := gw_at 609 (by decide +kernel) rfl
theorem wm_610 : (Cond.code ⟨"FloodingNetModel", "haveLink", "(II)Z"⟩ prog_5_method_6_code 3 (some FieldType.boolean)) ∈ gw := gw_at 610 (by decide +kernel) rfl
theorem wm_611 : (Cond.methodLink "FloodingNetModel" 127 ⟨"FloodingNetModel", "cut", "(II)V"⟩) ∈ gw := gw_at 611 (by decide +kernel) rfl
theorem wm_613 : (Cond.instanceMethod ⟨"FloodingNetModel", "cut", "(II)V"⟩) ∈ gw := gw_at 613 (by decide +kernel) rfl
theorem wm_614 : (Cond.code ⟨"FloodingNetModel", "cut", "(II)V"⟩ prog_5_method_12_code 5 none) ∈ gw := gw_at 614 (by decide +kernel) rfl
theorem wm_615 : (Cond.methodLink "FloodingNetLaw" 59 ⟨"FloodingNetModel", "restore", "(II)Z"⟩) ∈ gw := gw_at 615 (by decide +kernel) rfl
theorem wm_616 : (Cond.instanceMethod ⟨"FloodingNetModel", "restore", "(II)Z"⟩) ∈ gw := gw_at 616 (by decide +kernel) rfl
theorem wm_617 : (Cond.selects "FloodingNetModel" ⟨"FloodingNetModel", "restore", "(II)Z"⟩ ⟨"FloodingNetModel", "restore", "(II)Z"⟩) ∈ gw := gw_at 617 (by decide +kernel) rfl
theorem wm_618 : (Cond.code ⟨"FloodingNetModel", "restore", "(II)Z"⟩ prog_5_method_16_code 3 (some FieldType.boolean)) ∈ gw := gw_at 618 (by decide +kernel) rfl
theorem wm_619 : (Cond.methodLink "FloodingNetLaw" 63 ⟨"FloodingNetModel", "start", "(I)Z"⟩) ∈ gw := gw_at 619 (by decide +kernel) rfl
theorem wm_620 : (Cond.instanceMethod ⟨"FloodingNetModel", "start", "(I)Z"⟩) ∈ gw := gw_at 620 (by decide +kernel) rfl
theorem wm_621 : (Cond.selects "FloodingNetModel" ⟨"FloodingNetModel", "start", "(I)Z"⟩ ⟨"FloodingNetModel", "start", "(I)Z"⟩) ∈ gw := gw_at 621 (by decide +kernel) rfl
theorem wm_622 : (Cond.code ⟨"FloodingNetModel", "start", "(I)Z"⟩ prog_5_method_18_code 3 (some FieldType.boolean)) ∈ gw := gw_at 622 (by decide +kernel) rfl
theorem wm_623 : (Cond.methodLink "FloodingNetModel" 130 ⟨"FloodingNetModel", "forget", "(I)V"⟩) ∈ gw := gw_at 623 (by decide +kernel) rfl
theorem wm_625 : (Cond.instanceMethod ⟨"FloodingNetModel", "forget", "(I)V"⟩) ∈ gw := gw_at 625 (by decide +kernel) rfl
theorem wm_626 : (Cond.code ⟨"FloodingNetModel", "forget", "(I)V"⟩ prog_5_method_17_code 3 none) ∈ gw := gw_at 626 (by decide +kernel) rfl
theorem wm_627 : (Cond.methodLink "FloodingNetLaw" 66 ⟨"FloodingNetModel", "crash", "(I)Z"⟩) ∈ gw := gw_at 627 (by decide +kernel) rfl
theorem wm_628 : (Cond.instanceMethod ⟨"FloodingNetModel", "crash", "(I)Z"⟩) ∈ gw := gw_at 628 (by decide +kernel) rfl
theorem wm_629 : (Cond.selects "FloodingNetModel" ⟨"FloodingNetModel", "crash", "(I)Z"⟩ ⟨"FloodingNetModel", "crash", "(I)Z"⟩) ∈ gw := gw_at 629 (by decide +kernel) rfl
theorem wm_630 : (Cond.code ⟨"FloodingNetModel", "crash", "(I)Z"⟩ prog_5_method_19_code 4 (some FieldType.boolean)) ∈ gw := gw_at 630 (by decide +kernel) rfl
theorem wm_631 : (Cond.methodLink "FloodingNetLaw" 69 ⟨"FloodingNetModel", "tick", "(I)I"⟩) ∈ gw := gw_at 631 (by decide +kernel) rfl
theorem wm_632 : (Cond.instanceMethod ⟨"FloodingNetModel", "tick", "(I)I"⟩) ∈ gw := gw_at 632 (by decide +kernel) rfl
theorem wm_633 : (Cond.selects "FloodingNetModel" ⟨"FloodingNetModel", "tick", "(I)I"⟩ ⟨"FloodingNetModel", "tick", "(I)I"⟩) ∈ gw := gw_at 633 (by decide +kernel) rfl
theorem wm_634 : (Cond.code ⟨"FloodingNetModel", "tick", "(I)I"⟩ prog_5_method_22_code 3 (some FieldType.int)) ∈ gw := gw_at 634 (by decide +kernel) rfl
theorem wm_635 : (Cond.methodLink "FloodingNetModel" 142 ⟨"FloodingNetModel", "oneTick", "()V"⟩) ∈ gw := gw_at 635 (by decide +kernel) rfl
theorem wm_637 : (Cond.instanceMethod ⟨"FloodingNetModel", "oneTick", "()V"⟩) ∈ gw := gw_at 637 (by decide +kernel) rfl
theorem wm_638 : (Cond.code ⟨"FloodingNetModel", "oneTick", "()V"⟩ prog_5_method_21_code 2 none) ∈ gw := gw_at 638 (by decide +kernel) rfl
theorem wm_639 : (Cond.methodLink "FloodingNetModel" 133 ⟨"FloodingNetModel", "grow", "()V"⟩) ∈ gw := gw_at 639 (by decide +kernel) rfl
theorem wm_641 : (Cond.instanceMethod ⟨"FloodingNetModel", "grow", "()V"⟩) ∈ gw := gw_at 641 (by decide +kernel) rfl
theorem wm_642 : (Cond.code ⟨"FloodingNetModel", "grow", "()V"⟩ prog_5_method_20_code 2 none) ∈ gw := gw_at 642 (by decide +kernel) rfl
theorem wm_643 : (Cond.methodLink "FloodingNetModel" 136 ⟨"FloodingNetModel", "receive", "(III)V"⟩) ∈ gw := gw_at 643 (by decide +kernel) rfl
theorem wm_645 : (Cond.instanceMethod ⟨"FloodingNetModel", "receive", "(III)V"⟩) ∈ gw := gw_at 645 (by decide +kernel) rfl
theorem wm_646 : (Cond.code ⟨"FloodingNetModel", "receive", "(III)V"⟩ prog_5_method_11_code 8 none) ∈ gw := gw_at 646 (by decide +kernel) rfl
theorem wm_647 : (Cond.methodLink "FloodingNetModel" 139 ⟨"FloodingNetModel", "isAt", "(II)V"⟩) ∈ gw := gw_at 647 (by decide +kernel) rfl
theorem wm_649 : (Cond.instanceMethod ⟨"FloodingNetModel", "isAt", "(II)V"⟩) ∈ gw := gw_at 649 (by decide +kernel) rfl
theorem wm_650 : (Cond.code ⟨"FloodingNetModel", "isAt", "(II)V"⟩ prog_5_method_28_code 4 none) ∈ gw := gw_at 650 (by decide +kernel) rfl
theorem wm_651 : (Cond.methodLink "FloodingNetModel" 152 ⟨"FloodingNetModel", "nextOf", "(II)I"⟩) ∈ gw := gw_at 651 (by decide +kernel) rfl
theorem wm_653 : (Cond.instanceMethod ⟨"FloodingNetModel", "nextOf", "(II)I"⟩) ∈ gw := gw_at 653 (by decide +kernel) rfl
theorem wm_654 : (Cond.code ⟨"FloodingNetModel", "nextOf", "(II)I"⟩ prog_5_method_25_code 6 (some FieldType.int)) ∈ gw := gw_at 654 (by decide +kernel) rfl
theorem wm_655 : (Cond.methodLink "FloodingNetModel" 149 ⟨"FloodingNetModel", "measure", "(II)V"⟩) ∈ gw := gw_at 655 (by decide +kernel) rfl
theorem wm_657 : (Cond.instanceMethod ⟨"FloodingNetModel", "measure", "(II)V"⟩) ∈ gw := gw_at 657 (by decide +kernel) rfl
theorem wm_658 : (Cond.code ⟨"FloodingNetModel", "measure", "(II)V"⟩ prog_5_method_24_code 7 none) ∈ gw := gw_at 658 (by decide +kernel) rfl
theorem wm_659 : (Cond.methodLink "FloodingNetModel" 145 ⟨"FloodingNetModel", "step", "(III)I"⟩) ∈ gw := gw_at 659 (by decide +kernel) rfl
theorem wm_661 : (Cond.instanceMethod ⟨"FloodingNetModel", "step", "(III)I"⟩) ∈ gw := gw_at 661 (by decide +kernel) rfl
theorem wm_662 : (Cond.code ⟨"FloodingNetModel", "step", "(III)I"⟩ prog_5_method_23_code 7 (some FieldType.int)) ∈ gw := gw_at 662 (by decide +kernel) rfl
theorem wm_663 : (Cond.methodLink "FloodingNetLaw" 82 ⟨"FloodingNetModel", "distance", "(II)I"⟩) ∈ gw := gw_at 663 (by decide +kernel) rfl
theorem wm_664 : (Cond.instanceMethod ⟨"FloodingNetModel", "distance", "(II)I"⟩) ∈ gw := gw_at 664 (by decide +kernel) rfl
theorem wm_665 : (Cond.selects "FloodingNetModel" ⟨"FloodingNetModel", "distance", "(II)I"⟩ ⟨"FloodingNetModel", "distance", "(II)I"⟩) ∈ gw := gw_at 665 (by decide +kernel) rfl
theorem wm_666 : (Cond.code ⟨"FloodingNetModel", "distance", "(II)I"⟩ prog_5_method_26_code 3 (some FieldType.int)) ∈ gw := gw_at 666 (by decide +kernel) rfl
theorem wm_667 : (Cond.methodLink "FloodingNetLaw" 86 ⟨"FloodingNetModel", "next", "(II)I"⟩) ∈ gw := gw_at 667 (by decide +kernel) rfl
theorem wm_668 : (Cond.instanceMethod ⟨"FloodingNetModel", "next", "(II)I"⟩) ∈ gw := gw_at 668 (by decide +kernel) rfl
theorem wm_669 : (Cond.selects "FloodingNetModel" ⟨"FloodingNetModel", "next", "(II)I"⟩ ⟨"FloodingNetModel", "next", "(II)I"⟩) ∈ gw := gw_at 669 (by decide +kernel) rfl
theorem wm_670 : (Cond.code ⟨"FloodingNetModel", "next", "(II)I"⟩ prog_5_method_27_code 3 (some FieldType.int)) ∈ gw := gw_at 670 (by decide +kernel) rfl
theorem wm_671 : (Cond.methodLink "FloodingNetLaw" 90 ⟨"FloodingNetModel", "send", "(III)I"⟩) ∈ gw := gw_at 671 (by decide +kernel) rfl
theorem wm_672 : (Cond.instanceMethod ⟨"FloodingNetModel", "send", "(III)I"⟩) ∈ gw := gw_at 672 (by decide +kernel) rfl
theorem wm_673 : (Cond.selects "FloodingNetModel" ⟨"FloodingNetModel", "send", "(III)I"⟩ ⟨"FloodingNetModel", "send", "(III)I"⟩) ∈ gw := gw_at 673 (by decide +kernel) rfl
theorem wm_674 : (Cond.code ⟨"FloodingNetModel", "send", "(III)I"⟩ prog_5_method_29_code 6 (some FieldType.int)) ∈ gw := gw_at 674 (by decide +kernel) rfl
theorem wm_675 : (Cond.methodLink "FloodingNetLaw" 94 ⟨"FloodingNetModel", "packet", "(II)I"⟩) ∈ gw := gw_at 675 (by decide +kernel) rfl
theorem wm_676 : (Cond.instanceMethod ⟨"FloodingNetModel", "packet", "(II)I"⟩) ∈ gw := gw_at 676 (by decide +kernel) rfl
theorem wm_677 : (Cond.selects "FloodingNetModel" ⟨"FloodingNetModel", "packet", "(II)I"⟩ ⟨"FloodingNetModel", "packet", "(II)I"⟩) ∈ gw := gw_at 677 (by decide +kernel) rfl
theorem wm_678 : (Cond.code ⟨"FloodingNetModel", "packet", "(II)I"⟩ prog_5_method_30_code 3 (some FieldType.int)) ∈ gw := gw_at 678 (by decide +kernel) rfl
theorem wm_679 : (Cond.methodLink "FloodingNetLaw" 73 ⟨"FloodingNetModel", "news", "(III)I"⟩) ∈ gw := gw_at 679 (by decide +kernel) rfl
theorem wm_680 : (Cond.instanceMethod ⟨"FloodingNetModel", "news", "(III)I"⟩) ∈ gw := gw_at 680 (by decide +kernel) rfl
theorem wm_681 : (Cond.selects "FloodingNetModel" ⟨"FloodingNetModel", "news", "(III)I"⟩ ⟨"FloodingNetModel", "news", "(III)I"⟩) ∈ gw := gw_at 681 (by decide +kernel) rfl
theorem wm_682 : (Cond.code ⟨"FloodingNetModel", "news", "(III)I"⟩ prog_5_method_31_code 7 (some FieldType.int)) ∈ gw := gw_at 682 (by decide +kernel) rfl
theorem wm_683 : (Cond.methodLink "FloodingNetLaw" 77 ⟨"FloodingNetModel", "flying", "()I"⟩) ∈ gw := gw_at 683 (by decide +kernel) rfl
theorem wm_684 : (Cond.instanceMethod ⟨"FloodingNetModel", "flying", "()I"⟩) ∈ gw := gw_at 684 (by decide +kernel) rfl
theorem wm_685 : (Cond.selects "FloodingNetModel" ⟨"FloodingNetModel", "flying", "()I"⟩ ⟨"FloodingNetModel", "flying", "()I"⟩) ∈ gw := gw_at 685 (by decide +kernel) rfl
theorem wm_686 : (Cond.code ⟨"FloodingNetModel", "flying", "()I"⟩ prog_5_method_32_code 3 (some FieldType.int)) ∈ gw := gw_at 686 (by decide +kernel) rfl
theorem wm_687 : (Cond.methodLink "FloodingNetLaw" 99 ⟨"FloodingNetModel", "settled", "()Z"⟩) ∈ gw := gw_at 687 (by decide +kernel) rfl
theorem wm_688 : (Cond.instanceMethod ⟨"FloodingNetModel", "settled", "()Z"⟩) ∈ gw := gw_at 688 (by decide +kernel) rfl
theorem wm_689 : (Cond.selects "FloodingNetModel" ⟨"FloodingNetModel", "settled", "()Z"⟩ ⟨"FloodingNetModel", "settled", "()Z"⟩) ∈ gw := gw_at 689 (by decide +kernel) rfl
theorem wm_690 : (Cond.code ⟨"FloodingNetModel", "settled", "()Z"⟩ prog_5_method_33_code 5 (some FieldType.boolean)) ∈ gw := gw_at 690 (by decide +kernel) rfl
theorem wm_691 : (Cond.methodLink "FloodingNetModel" 156 ⟨"FloodingNetModel", "flying", "()I"⟩) ∈ gw := gw_at 691 (by decide +kernel) rfl
end
section
theorem dX0_init_0 : decode cX0_init 0 = .ok (.aload_n 0, 1) := by decide +kernel
theorem dX0_init_1 : decode cX0_init 1 = .ok (.invokespecial 3, 3) := by decide +kernel
theorem dX0_init_4 : decode cX0_init 4 = .ok (.aload_n 0, 1) := by decide +kernel
theorem dX0_init_5 : decode cX0_init 5 = .ok (.iload_n 1, 1) := by decide +kernel
theorem dX0_init_6 : decode cX0_init 6 = .ok (.putfield 9, 3) := by decide +kernel
theorem dX0_init_9 : decode cX0_init 9 = .ok (.aload_n 0, 1) := by decide +kernel
theorem dX0_init_10 : decode cX0_init 10 = .ok (.iload_n 2, 1) := by decide +kernel
theorem dX0_init_11 : decode cX0_init 11 = .ok (.putfield 15, 3) := by decide +kernel
theorem dX0_init_14 : decode cX0_init 14 = .ok (.aload_n 0, 1) := by decide +kernel
theorem dX0_init_15 : decode cX0_init 15 = .ok (.bipush 31, 2) := by decide +kernel
theorem dX0_init_17 : decode cX0_init 17 = .ok (.newarray .int, 2) := by decide +kernel
theorem dX0_init_19 : decode cX0_init 19 = .ok (.putfield 18, 3) := by decide +kernel
theorem dX0_init_22 : decode cX0_init 22 = .ok (.aload_n 0, 1) := by decide +kernel
theorem dX0_init_23 : decode cX0_init 23 = .ok (.iconst 0, 1) := by decide +kernel
theorem dX0_init_24 : decode cX0_init 24 = .ok (.putfield 22, 3) := by decide +kernel
theorem dX0_init_27 : decode cX0_init 27 = .ok (.return_, 1) := by decide +kernel
theorem dX0_visit_0 : decode cX0_visit 0 = .ok (.aload_n 0, 1) := by decide +kernel
theorem dX0_visit_1 : decode cX0_visit 1 = .ok (.iload_n 1, 1) := by decide +kernel
theorem dX0_visit_2 : decode cX0_visit 2 = .ok (.putfield 25, 3) := by decide +kernel
theorem dX0_visit_5 : decode cX0_visit 5 = .ok (.aload_n 0, 1) := by decide +kernel
theorem dX0_visit_6 : decode cX0_visit 6 = .ok (.getfield 28, 3) := by decide +kernel
theorem dX0_visit_9 : decode cX0_visit 9 = .ok (.aload_n 0, 1) := by decide +kernel
theorem dX0_visit_10 : decode cX0_visit 10 = .ok (.getfield 18, 3) := by decide +kernel
theorem dX0_visit_13 : decode cX0_visit 13 = .ok (.arraylength, 1) := by decide +kernel
theorem dX0_visit_14 : decode cX0_visit 14 = .ok (.if_icmp .ge 23, 3) := by decide +kernel
theorem dX0_visit_17 : decode cX0_visit 17 = .ok (.aload_n 0, 1) := by decide +kernel
theorem dX0_visit_18 : decode cX0_visit 18 = .ok (.getfield 18, 3) := by decide +kernel
theorem dX0_visit_21 : decode cX0_visit 21 = .ok (.aload_n 0, 1) := by decide +kernel
theorem dX0_visit_22 : decode cX0_visit 22 = .ok (.getfield 28, 3) := by decide +kernel
theorem dX0_visit_25 : decode cX0_visit 25 = .ok (.iload_n 1, 1) := by decide +kernel
theorem dX0_visit_26 : decode cX0_visit 26 = .ok (.iastore, 1) := by decide +kernel
theorem dX0_visit_27 : decode cX0_visit 27 = .ok (.aload_n 0, 1) := by decide +kernel
theorem dX0_visit_28 : decode cX0_visit 28 = .ok (.dup, 1) := by decide +kernel
theorem dX0_visit_29 : decode cX0_visit 29 = .ok (.getfield 28, 3) := by decide +kernel
theorem dX0_visit_32 : decode cX0_visit 32 = .ok (.iconst 1, 1) := by decide +kernel
theorem dX0_visit_33 : decode cX0_visit 33 = .ok (.iadd, 1) := by decide +kernel
theorem dX0_visit_34 : decode cX0_visit 34 = .ok (.putfield 28, 3) := by decide +kernel
theorem dX0_visit_37 : decode cX0_visit 37 = .ok (.return_, 1) := by decide +kernel
theorem dX0_isOn_0 : decode cX0_isOn 0 = .ok (.aload_n 0, 1) := by decide +kernel
theorem dX0_isOn_1 : decode cX0_isOn 1 = .ok (.getfield 25, 3) := by decide +kernel
theorem dX0_isOn_4 : decode cX0_isOn 4 = .ok (.iload_n 1, 1) := by decide +kernel
theorem dX0_isOn_5 : decode cX0_isOn 5 = .ok (.if_icmp .ne 15, 3) := by decide +kernel
theorem dX0_isOn_8 : decode cX0_isOn 8 = .ok (.aload_n 0, 1) := by decide +kernel
theorem dX0_isOn_9 : decode cX0_isOn 9 = .ok (.getfield 31, 3) := by decide +kernel
theorem dX0_isOn_12 : decode cX0_isOn 12 = .ok (.iload_n 2, 1) := by decide +kernel
theorem dX0_isOn_13 : decode cX0_isOn 13 = .ok (.if_icmp .ne 7, 3) := by decide +kernel
theorem dX0_isOn_16 : decode cX0_isOn 16 = .ok (.iconst 1, 1) := by decide +kernel
theorem dX0_isOn_17 : decode cX0_isOn 17 = .ok (.goto 4, 3) := by decide +kernel
theorem dX0_isOn_20 : decode cX0_isOn 20 = .ok (.iconst 0, 1) := by decide +kernel
theorem dX0_isOn_21 : decode cX0_isOn 21 = .ok (.istore_n 3, 1) := by decide +kernel
theorem dX0_isOn_22 : decode cX0_isOn 22 = .ok (.aload_n 0, 1) := by decide +kernel
theorem dX0_isOn_23 : decode cX0_isOn 23 = .ok (.getfield 25, 3) := by decide +kernel
theorem dX0_isOn_26 : decode cX0_isOn 26 = .ok (.iload_n 2, 1) := by decide +kernel
theorem dX0_isOn_27 : decode cX0_isOn 27 = .ok (.if_icmp .ne 15, 3) := by decide +kernel
theorem dX0_isOn_30 : decode cX0_isOn 30 = .ok (.aload_n 0, 1) := by decide +kernel
theorem dX0_isOn_31 : decode cX0_isOn 31 = .ok (.getfield 31, 3) := by decide +kernel
theorem dX0_isOn_34 : decode cX0_isOn 34 = .ok (.iload_n 1, 1) := by decide +kernel
theorem dX0_isOn_35 : decode cX0_isOn 35 = .ok (.if_icmp .ne 7, 3) := by decide +kernel
theorem dX0_isOn_38 : decode cX0_isOn 38 = .ok (.iconst 1, 1) := by decide +kernel
theorem dX0_isOn_39 : decode cX0_isOn 39 = .ok (.goto 4, 3) := by decide +kernel
theorem dX0_isOn_42 : decode cX0_isOn 42 = .ok (.iconst 0, 1) := by decide +kernel
theorem dX0_isOn_43 : decode cX0_isOn 43 = .ok (.istore 4, 2) := by decide +kernel
theorem dX0_isOn_45 : decode cX0_isOn 45 = .ok (.aload_n 0, 1) := by decide +kernel
theorem dX0_isOn_46 : decode cX0_isOn 46 = .ok (.getfield 22, 3) := by decide +kernel
theorem dX0_isOn_49 : decode cX0_isOn 49 = .ok (.ifCond .ne 16, 3) := by decide +kernel
theorem dX0_isOn_52 : decode cX0_isOn 52 = .ok (.iload_n 3, 1) := by decide +kernel
theorem dX0_isOn_53 : decode cX0_isOn 53 = .ok (.ifCond .ne 8, 3) := by decide +kernel
theorem dX0_isOn_56 : decode cX0_isOn 56 = .ok (.iload 4, 2) := by decide +kernel
theorem dX0_isOn_58 : decode cX0_isOn 58 = .ok (.ifCond .eq 7, 3) := by decide +kernel
theorem dX0_isOn_61 : decode cX0_isOn 61 = .ok (.iconst 1, 1) := by decide +kernel
theorem dX0_isOn_62 : decode cX0_isOn 62 = .ok (.goto 4, 3) := by decide +kernel
theorem dX0_isOn_65 : decode cX0_isOn 65 = .ok (.iconst 0, 1) := by decide +kernel
theorem dX0_isOn_66 : decode cX0_isOn 66 = .ok (.ireturn, 1) := by decide +kernel
theorem dX1_init_0 : decode cX1_init 0 = .ok (.aload_n 0, 1) := by decide +kernel
theorem dX1_init_1 : decode cX1_init 1 = .ok (.invokespecial 3, 3) := by decide +kernel
theorem dX1_init_4 : decode cX1_init 4 = .ok (.aload_n 0, 1) := by decide +kernel
theorem dX1_init_5 : decode cX1_init 5 = .ok (.iload_n 1, 1) := by decide +kernel
theorem dX1_init_6 : decode cX1_init 6 = .ok (.newarray .int, 2) := by decide +kernel
theorem dX1_init_8 : decode cX1_init 8 = .ok (.putfield 9, 3) := by decide +kernel
theorem dX1_init_11 : decode cX1_init 11 = .ok (.aload_n 0, 1) := by decide +kernel
theorem dX1_init_12 : decode cX1_init 12 = .ok (.iload_n 1, 1) := by decide +kernel
theorem dX1_init_13 : decode cX1_init 13 = .ok (.newarray .int, 2) := by decide +kernel
theorem dX1_init_15 : decode cX1_init 15 = .ok (.putfield 15, 3) := by decide +kernel
theorem dX1_init_18 : decode cX1_init 18 = .ok (.aload_n 0, 1) := by decide +kernel
theorem dX1_init_19 : decode cX1_init 19 = .ok (.iload_n 1, 1) := by decide +kernel
theorem dX1_init_20 : decode cX1_init 20 = .ok (.newarray .long, 2) := by decide +kernel
theorem dX1_init_22 : decode cX1_init 22 = .ok (.putfield 18, 3) := by decide +kernel
theorem dX1_init_25 : decode cX1_init 25 = .ok (.return_, 1) := by decide +kernel
theorem dX1_packed_0 : decode cX1_packed 0 = .ok (.iload_n 0, 1) := by decide +kernel
theorem dX1_packed_1 : decode cX1_packed 1 = .ok (.i2l, 1) := by decide +kernel
theorem dX1_packed_2 : decode cX1_packed 2 = .ok (.bipush 6, 2) := by decide +kernel
theorem dX1_packed_4 : decode cX1_packed 4 = .ok (.iload_n 1, 1) := by decide +kernel
theorem dX1_packed_5 : decode cX1_packed 5 = .ok (.imul, 1) := by decide +kernel
theorem dX1_packed_6 : decode cX1_packed 6 = .ok (.lshl, 1) := by decide +kernel
theorem dX1_packed_7 : decode cX1_packed 7 = .ok (.lreturn, 1) := by decide +kernel
theorem dX1_write_0 : decode cX1_write 0 = .ok (.aload_n 0, 1) := by decide +kernel
theorem dX1_write_1 : decode cX1_write 1 = .ok (.getfield 9, 3) := by decide +kernel
theorem dX1_write_4 : decode cX1_write 4 = .ok (.iload_n 1, 1) := by decide +kernel
theorem dX1_write_5 : decode cX1_write 5 = .ok (.iaload, 1) := by decide +kernel
theorem dX1_write_6 : decode cX1_write 6 = .ok (.ifCond .ne 13, 3) := by decide +kernel
theorem dX1_write_9 : decode cX1_write 9 = .ok (.aload_n 0, 1) := by decide +kernel
theorem dX1_write_10 : decode cX1_write 10 = .ok (.dup, 1) := by decide +kernel
theorem dX1_write_11 : decode cX1_write 11 = .ok (.getfield 22, 3) := by decide +kernel
theorem dX1_write_14 : decode cX1_write 14 = .ok (.iconst 1, 1) := by decide +kernel
theorem dX1_write_15 : decode cX1_write 15 = .ok (.iadd, 1) := by decide +kernel
theorem dX1_write_16 : decode cX1_write 16 = .ok (.putfield 22, 3) := by decide +kernel
theorem dX1_write_19 : decode cX1_write 19 = .ok (.aload_n 0, 1) := by decide +kernel
theorem dX1_write_20 : decode cX1_write 20 = .ok (.getfield 9, 3) := by decide +kernel
theorem dX1_write_23 : decode cX1_write 23 = .ok (.iload_n 1, 1) := by decide +kernel
theorem dX1_write_24 : decode cX1_write 24 = .ok (.iload_n 2, 1) := by decide +kernel
theorem dX1_write_25 : decode cX1_write 25 = .ok (.iastore, 1) := by decide +kernel
theorem dX1_write_26 : decode cX1_write 26 = .ok (.aload_n 0, 1) := by decide +kernel
theorem dX1_write_27 : decode cX1_write 27 = .ok (.getfield 15, 3) := by decide +kernel
theorem dX1_write_30 : decode cX1_write 30 = .ok (.iload_n 1, 1) := by decide +kernel
theorem dX1_write_31 : decode cX1_write 31 = .ok (.iload_n 3, 1) := by decide +kernel
theorem dX1_write_32 : decode cX1_write 32 = .ok (.iastore, 1) := by decide +kernel
theorem dX1_write_33 : decode cX1_write 33 = .ok (.aload_n 0, 1) := by decide +kernel
theorem dX1_write_34 : decode cX1_write 34 = .ok (.getfield 18, 3) := by decide +kernel
theorem dX1_write_37 : decode cX1_write 37 = .ok (.iload_n 1, 1) := by decide +kernel
theorem dX1_write_38 : decode cX1_write 38 = .ok (.lload 4, 2) := by decide +kernel
theorem dX1_write_40 : decode cX1_write 40 = .ok (.lastore, 1) := by decide +kernel
theorem dX1_write_41 : decode cX1_write 41 = .ok (.return_, 1) := by decide +kernel
theorem dX1_costFor_0 : decode cX1_costFor 0 = .ok (.aload_n 0, 1) := by decide +kernel
theorem dX1_costFor_1 : decode cX1_costFor 1 = .ok (.getfield 18, 3) := by decide +kernel
theorem dX1_costFor_4 : decode cX1_costFor 4 = .ok (.iload_n 1, 1) := by decide +kernel
theorem dX1_costFor_5 : decode cX1_costFor 5 = .ok (.laload, 1) := by decide +kernel
theorem dX1_costFor_6 : decode cX1_costFor 6 = .ok (.bipush 6, 2) := by decide +kernel
theorem dX1_costFor_8 : decode cX1_costFor 8 = .ok (.iload_n 2, 1) := by decide +kernel
theorem dX1_costFor_9 : decode cX1_costFor 9 = .ok (.imul, 1) := by decide +kernel
theorem dX1_costFor_10 : decode cX1_costFor 10 = .ok (.lshr, 1) := by decide +kernel
theorem dX1_costFor_11 : decode cX1_costFor 11 = .ok (.l2i, 1) := by decide +kernel
theorem dX1_costFor_12 : decode cX1_costFor 12 = .ok (.bipush 63, 2) := by decide +kernel
theorem dX1_costFor_14 : decode cX1_costFor 14 = .ok (.iand, 1) := by decide +kernel
theorem dX1_costFor_15 : decode cX1_costFor 15 = .ok (.ireturn, 1) := by decide +kernel
theorem dX1_costCount_0 : decode cX1_costCount 0 = .ok (.iconst 0, 1) := by decide +kernel
theorem dX1_costCount_1 : decode cX1_costCount 1 = .ok (.istore_n 2, 1) := by decide +kernel
theorem dX1_costCount_2 : decode cX1_costCount 2 = .ok (.iconst 0, 1) := by decide +kernel
theorem dX1_costCount_3 : decode cX1_costCount 3 = .ok (.istore_n 3, 1) := by decide +kernel
theorem dX1_costCount_4 : decode cX1_costCount 4 = .ok (.iload_n 3, 1) := by decide +kernel
theorem dX1_costCount_5 : decode cX1_costCount 5 = .ok (.bipush 8, 2) := by decide +kernel
theorem dX1_costCount_7 : decode cX1_costCount 7 = .ok (.if_icmp .ge 21, 3) := by decide +kernel
theorem dX1_costCount_10 : decode cX1_costCount 10 = .ok (.aload_n 0, 1) := by decide +kernel
theorem dX1_costCount_11 : decode cX1_costCount 11 = .ok (.iload_n 1, 1) := by decide +kernel
theorem dX1_costCount_12 : decode cX1_costCount 12 = .ok (.iload_n 3, 1) := by decide +kernel
theorem dX1_costCount_13 : decode cX1_costCount 13 = .ok (.invokevirtual 26, 3) := by decide +kernel
theorem dX1_costCount_16 : decode cX1_costCount 16 = .ok (.ifCond .le 6, 3) := by decide +kernel
theorem dX1_costCount_19 : decode cX1_costCount 19 = .ok (.iinc 2 1, 3) := by decide +kernel
theorem dX1_costCount_22 : decode cX1_costCount 22 = .ok (.iinc 3 1, 3) := by decide +kernel
theorem dX1_costCount_25 : decode cX1_costCount 25 = .ok (.goto (-21), 3) := by decide +kernel
theorem dX1_costCount_28 : decode cX1_costCount 28 = .ok (.iload_n 2, 1) := by decide +kernel
theorem dX1_costCount_29 : decode cX1_costCount 29 = .ok (.ireturn, 1) := by decide +kernel
theorem dX1_clear_0 : decode cX1_clear 0 = .ok (.aload_n 0, 1) := by decide +kernel
theorem dX1_clear_1 : decode cX1_clear 1 = .ok (.getfield 9, 3) := by decide +kernel
theorem dX1_clear_4 : decode cX1_clear 4 = .ok (.iload_n 1, 1) := by decide +kernel
theorem dX1_clear_5 : decode cX1_clear 5 = .ok (.iaload, 1) := by decide +kernel
theorem dX1_clear_6 : decode cX1_clear 6 = .ok (.ifCond .le 13, 3) := by decide +kernel
theorem dX1_clear_9 : decode cX1_clear 9 = .ok (.aload_n 0, 1) := by decide +kernel
theorem dX1_clear_10 : decode cX1_clear 10 = .ok (.dup, 1) := by decide +kernel
theorem dX1_clear_11 : decode cX1_clear 11 = .ok (.getfield 22, 3) := by decide +kernel
theorem dX1_clear_14 : decode cX1_clear 14 = .ok (.iconst 1, 1) := by decide +kernel
theorem dX1_clear_15 : decode cX1_clear 15 = .ok (.isub, 1) := by decide +kernel
theorem dX1_clear_16 : decode cX1_clear 16 = .ok (.putfield 22, 3) := by decide +kernel
theorem dX1_clear_19 : decode cX1_clear 19 = .ok (.aload_n 0, 1) := by decide +kernel
theorem dX1_clear_20 : decode cX1_clear 20 = .ok (.getfield 9, 3) := by decide +kernel
theorem dX1_clear_23 : decode cX1_clear 23 = .ok (.iload_n 1, 1) := by decide +kernel
theorem dX1_clear_24 : decode cX1_clear 24 = .ok (.iconst 0, 1) := by decide +kernel
theorem dX1_clear_25 : decode cX1_clear 25 = .ok (.iastore, 1) := by decide +kernel
theorem dX1_clear_26 : decode cX1_clear 26 = .ok (.aload_n 0, 1) := by decide +kernel
theorem dX1_clear_27 : decode cX1_clear 27 = .ok (.getfield 18, 3) := by decide +kernel
theorem dX1_clear_30 : decode cX1_clear 30 = .ok (.iload_n 1, 1) := by decide +kernel
theorem dX1_clear_31 : decode cX1_clear 31 = .ok (.lconst 0, 1) := by decide +kernel
theorem dX1_clear_32 : decode cX1_clear 32 = .ok (.lastore, 1) := by decide +kernel
theorem dX1_clear_33 : decode cX1_clear 33 = .ok (.return_, 1) := by decide +kernel
theorem dX1_clearBornUntil_0 : decode cX1_clearBornUntil 0 = .ok (.aload_n 0, 1) := by decide +kernel
theorem dX1_clearBornUntil_1 : decode cX1_clearBornUntil 1 = .ok (.getfield 22, 3) := by decide +kernel
theorem dX1_clearBornUntil_4 : decode cX1_clearBornUntil 4 = .ok (.istore_n 2, 1) := by decide +kernel
theorem dX1_clearBornUntil_5 : decode cX1_clearBornUntil 5 = .ok (.iconst 0, 1) := by decide +kernel
theorem dX1_clearBornUntil_6 : decode cX1_clearBornUntil 6 = .ok (.istore_n 3, 1) := by decide +kernel
theorem dX1_clearBornUntil_7 : decode cX1_clearBornUntil 7 = .ok (.iload_n 3, 1) := by decide +kernel
theorem dX1_clearBornUntil_8 : decode cX1_clearBornUntil 8 = .ok (.aload_n 0, 1) := by decide +kernel
theorem dX1_clearBornUntil_9 : decode cX1_clearBornUntil 9 = .ok (.getfield 9, 3) := by decide +kernel
theorem dX1_clearBornUntil_12 : decode cX1_clearBornUntil 12 = .ok (.arraylength, 1) := by decide +kernel
theorem dX1_clearBornUntil_13 : decode cX1_clearBornUntil 13 = .ok (.if_icmp .ge 40, 3) := by decide +kernel
theorem dX1_clearBornUntil_16 : decode cX1_clearBornUntil 16 = .ok (.iload_n 2, 1) := by decide +kernel
theorem dX1_clearBornUntil_17 : decode cX1_clearBornUntil 17 = .ok (.ifCond .le 36, 3) := by decide +kernel
theorem dX1_clearBornUntil_20 : decode cX1_clearBornUntil 20 = .ok (.aload_n 0, 1) := by decide +kernel
theorem dX1_clearBornUntil_21 : decode cX1_clearBornUntil 21 = .ok (.getfield 9, 3) := by decide +kernel
theorem dX1_clearBornUntil_24 : decode cX1_clearBornUntil 24 = .ok (.iload_n 3, 1) := by decide +kernel
theorem dX1_clearBornUntil_25 : decode cX1_clearBornUntil 25 = .ok (.iaload, 1) := by decide +kernel
theorem dX1_clearBornUntil_26 : decode cX1_clearBornUntil 26 = .ok (.ifCond .le 21, 3) := by decide +kernel
theorem dX1_clearBornUntil_29 : decode cX1_clearBornUntil 29 = .ok (.iinc 2 (-1), 3) := by decide +kernel
theorem dX1_clearBornUntil_32 : decode cX1_clearBornUntil 32 = .ok (.aload_n 0, 1) := by decide +kernel
theorem dX1_clearBornUntil_33 : decode cX1_clearBornUntil 33 = .ok (.getfield 15, 3) := by decide +kernel
theorem dX1_clearBornUntil_36 : decode cX1_clearBornUntil 36 = .ok (.iload_n 3, 1) := by decide +kernel
theorem dX1_clearBornUntil_37 : decode cX1_clearBornUntil 37 = .ok (.iaload, 1) := by decide +kernel
theorem dX1_clearBornUntil_38 : decode cX1_clearBornUntil 38 = .ok (.iload_n 1, 1) := by decide +kernel
theorem dX1_clearBornUntil_39 : decode cX1_clearBornUntil 39 = .ok (.if_icmp .gt 8, 3) := by decide +kernel
theorem dX1_clearBornUntil_42 : decode cX1_clearBornUntil 42 = .ok (.aload_n 0, 1) := by decide +kernel
theorem dX1_clearBornUntil_43 : decode cX1_clearBornUntil 43 = .ok (.iload_n 3, 1) := by decide +kernel
theorem dX1_clearBornUntil_44 : decode cX1_clearBornUntil 44 = .ok (.invokevirtual 30, 3) := by decide +kernel
theorem dX1_clearBornUntil_47 : decode cX1_clearBornUntil 47 = .ok (.iinc 3 1, 3) := by decide +kernel
theorem dX1_clearBornUntil_50 : decode cX1_clearBornUntil 50 = .ok (.goto (-43), 3) := by decide +kernel
theorem dX1_clearBornUntil_53 : decode cX1_clearBornUntil 53 = .ok (.return_, 1) := by decide +kernel
theorem dX2_init_0 : decode cX2_init 0 = .ok (.aload_n 0, 1) := by decide +kernel
theorem dX2_init_1 : decode cX2_init 1 = .ok (.invokespecial 3, 3) := by decide +kernel
theorem dX2_init_4 : decode cX2_init 4 = .ok (.aload_n 0, 1) := by decide +kernel
theorem dX2_init_5 : decode cX2_init 5 = .ok (.bipush 8, 2) := by decide +kernel
theorem dX2_init_7 : decode cX2_init 7 = .ok (.newarray .boolean, 2) := by decide +kernel
theorem dX2_init_9 : decode cX2_init 9 = .ok (.putfield 9, 3) := by decide +kernel
theorem dX2_init_12 : decode cX2_init 12 = .ok (.aload_n 0, 1) := by decide +kernel
theorem dX2_init_13 : decode cX2_init 13 = .ok (.bipush 8, 2) := by decide +kernel
theorem dX2_init_15 : decode cX2_init 15 = .ok (.newarray .int, 2) := by decide +kernel
theorem dX2_init_17 : decode cX2_init 17 = .ok (.putfield 13, 3) := by decide +kernel
theorem dX2_init_20 : decode cX2_init 20 = .ok (.aload_n 0, 1) := by decide +kernel
theorem dX2_init_21 : decode cX2_init 21 = .ok (.bipush 64, 2) := by decide +kernel
theorem dX2_init_23 : decode cX2_init 23 = .ok (.newarray .int, 2) := by decide +kernel
theorem dX2_init_25 : decode cX2_init 25 = .ok (.putfield 17, 3) := by decide +kernel
theorem dX2_init_28 : decode cX2_init 28 = .ok (.aload_n 0, 1) := by decide +kernel
theorem dX2_init_29 : decode cX2_init 29 = .ok (.bipush 64, 2) := by decide +kernel
theorem dX2_init_31 : decode cX2_init 31 = .ok (.newarray .int, 2) := by decide +kernel
theorem dX2_init_33 : decode cX2_init 33 = .ok (.putfield 20, 3) := by decide +kernel
theorem dX2_init_36 : decode cX2_init 36 = .ok (.aload_n 0, 1) := by decide +kernel
theorem dX2_init_37 : decode cX2_init 37 = .ok (.bipush 64, 2) := by decide +kernel
theorem dX2_init_39 : decode cX2_init 39 = .ok (.newarray .boolean, 2) := by decide +kernel
theorem dX2_init_41 : decode cX2_init 41 = .ok (.putfield 23, 3) := by decide +kernel
theorem dX2_init_44 : decode cX2_init 44 = .ok (.aload_n 0, 1) := by decide +kernel
theorem dX2_init_45 : decode cX2_init 45 = .ok (.new 26, 3) := by decide +kernel
theorem dX2_init_48 : decode cX2_init 48 = .ok (.dup, 1) := by decide +kernel
theorem dX2_init_49 : decode cX2_init 49 = .ok (.bipush 64, 2) := by decide +kernel
theorem dX2_init_51 : decode cX2_init 51 = .ok (.invokespecial 28, 3) := by decide +kernel
theorem dX2_init_54 : decode cX2_init 54 = .ok (.putfield 31, 3) := by decide +kernel
theorem dX2_init_57 : decode cX2_init 57 = .ok (.aload_n 0, 1) := by decide +kernel
theorem dX2_init_58 : decode cX2_init 58 = .ok (.new 26, 3) := by decide +kernel
theorem dX2_init_61 : decode cX2_init 61 = .ok (.dup, 1) := by decide +kernel
theorem dX2_init_62 : decode cX2_init 62 = .ok (.sipush 512, 3) := by decide +kernel
theorem dX2_init_65 : decode cX2_init 65 = .ok (.invokespecial 28, 3) := by decide +kernel
theorem dX2_init_68 : decode cX2_init 68 = .ok (.putfield 35, 3) := by decide +kernel
theorem dX2_init_71 : decode cX2_init 71 = .ok (.aload_n 0, 1) := by decide +kernel
theorem dX2_init_72 : decode cX2_init 72 = .ok (.sipush 512, 3) := by decide +kernel
theorem dX2_init_75 : decode cX2_init 75 = .ok (.newarray .int, 2) := by decide +kernel
theorem dX2_init_77 : decode cX2_init 77 = .ok (.putfield 38, 3) := by decide +kernel
theorem dX2_init_80 : decode cX2_init 80 = .ok (.aload_n 0, 1) := by decide +kernel
theorem dX2_init_81 : decode cX2_init 81 = .ok (.bipush 20, 2) := by decide +kernel
theorem dX2_init_83 : decode cX2_init 83 = .ok (.anewarray 41, 3) := by decide +kernel
theorem dX2_init_86 : decode cX2_init 86 = .ok (.putfield 43, 3) := by decide +kernel
theorem dX2_init_89 : decode cX2_init 89 = .ok (.aload_n 0, 1) := by decide +kernel
theorem dX2_init_90 : decode cX2_init 90 = .ok (.bipush 8, 2) := by decide +kernel
theorem dX2_init_92 : decode cX2_init 92 = .ok (.newarray .int, 2) := by decide +kernel
theorem dX2_init_94 : decode cX2_init 94 = .ok (.putfield 47, 3) := by decide +kernel
theorem dX2_init_97 : decode cX2_init 97 = .ok (.return_, 1) := by decide +kernel
theorem dX2_link_0 : decode cX2_link 0 = .ok (.iload_n 1, 1) := by decide +kernel
theorem dX2_link_1 : decode cX2_link 1 = .ok (.invokestatic 50, 3) := by decide +kernel
theorem dX2_link_4 : decode cX2_link 4 = .ok (.ifCond .eq 15, 3) := by decide +kernel
theorem dX2_link_7 : decode cX2_link 7 = .ok (.iload_n 2, 1) := by decide +kernel
theorem dX2_link_8 : decode cX2_link 8 = .ok (.invokestatic 50, 3) := by decide +kernel
theorem dX2_link_11 : decode cX2_link 11 = .ok (.ifCond .eq 8, 3) := by decide +kernel
theorem dX2_link_14 : decode cX2_link 14 = .ok (.iload_n 1, 1) := by decide +kernel
theorem dX2_link_15 : decode cX2_link 15 = .ok (.iload_n 2, 1) := by decide +kernel
theorem dX2_link_16 : decode cX2_link 16 = .ok (.if_icmp .ne 13, 3) := by decide +kernel
theorem dX2_link_19 : decode cX2_link 19 = .ok (.new 54, 3) := by decide +kernel
theorem dX2_link_22 : decode cX2_link 22 = .ok (.dup, 1) := by decide +kernel
theorem dX2_link_23 : decode cX2_link 23 = .ok (.ldc 56, 2) := by decide +kernel
theorem dX2_link_25 : decode cX2_link 25 = .ok (.invokespecial 58, 3) := by decide +kernel
theorem dX2_link_28 : decode cX2_link 28 = .ok (.athrow, 1) := by decide +kernel
theorem dX2_link_29 : decode cX2_link 29 = .ok (.iload_n 3, 1) := by decide +kernel
theorem dX2_link_30 : decode cX2_link 30 = .ok (.iconst 1, 1) := by decide +kernel
theorem dX2_link_31 : decode cX2_link 31 = .ok (.if_icmp .lt 22, 3) := by decide +kernel
theorem dX2_link_34 : decode cX2_link 34 = .ok (.iload_n 3, 1) := by decide +kernel
theorem dX2_link_35 : decode cX2_link 35 = .ok (.bipush 50, 2) := by decide +kernel
theorem dX2_link_37 : decode cX2_link 37 = .ok (.if_icmp .gt 16, 3) := by decide +kernel
theorem dX2_link_40 : decode cX2_link 40 = .ok (.iload 4, 2) := by decide +kernel
theorem dX2_link_42 : decode cX2_link 42 = .ok (.iconst 1, 1) := by decide +kernel
theorem dX2_link_43 : decode cX2_link 43 = .ok (.if_icmp .lt 10, 3) := by decide +kernel
theorem dX2_link_46 : decode cX2_link 46 = .ok (.iload 4, 2) := by decide +kernel
theorem dX2_link_48 : decode cX2_link 48 = .ok (.bipush 8, 2) := by decide +kernel
theorem dX2_link_50 : decode cX2_link 50 = .ok (.if_icmp .le 13, 3) := by decide +kernel
theorem dX2_link_53 : decode cX2_link 53 = .ok (.new 54, 3) := by decide +kernel
theorem dX2_link_56 : decode cX2_link 56 = .ok (.dup, 1) := by decide +kernel
theorem dX2_link_57 : decode cX2_link 57 = .ok (.ldc 61, 2) := by decide +kernel
theorem dX2_link_59 : decode cX2_link 59 = .ok (.invokespecial 58, 3) := by decide +kernel
theorem dX2_link_62 : decode cX2_link 62 = .ok (.athrow, 1) := by decide +kernel
theorem dX2_link_63 : decode cX2_link 63 = .ok (.aload_n 0, 1) := by decide +kernel
theorem dX2_link_64 : decode cX2_link 64 = .ok (.iload_n 1, 1) := by decide +kernel
theorem dX2_link_65 : decode cX2_link 65 = .ok (.iload_n 2, 1) := by decide +kernel
theorem dX2_link_66 : decode cX2_link 66 = .ok (.invokevirtual 63, 3) := by decide +kernel
theorem dX2_link_69 : decode cX2_link 69 = .ok (.ifCond .ne 12, 3) := by decide +kernel
theorem dX2_link_72 : decode cX2_link 72 = .ok (.aload_n 0, 1) := by decide +kernel
theorem dX2_link_73 : decode cX2_link 73 = .ok (.getfield 67, 3) := by decide +kernel
theorem dX2_link_76 : decode cX2_link 76 = .ok (.bipush 12, 2) := by decide +kernel
theorem dX2_link_78 : decode cX2_link 78 = .ok (.if_icmp .lt 13, 3) := by decide +kernel
theorem dX2_link_81 : decode cX2_link 81 = .ok (.new 71, 3) := by decide +kernel
theorem dX2_link_84 : decode cX2_link 84 = .ok (.dup, 1) := by decide +kernel
theorem dX2_link_85 : decode cX2_link 85 = .ok (.ldc 73, 2) := by decide +kernel
theorem dX2_link_87 : decode cX2_link 87 = .ok (.invokespecial 75, 3) := by decide +kernel
theorem dX2_link_90 : decode cX2_link 90 = .ok (.athrow, 1) := by decide +kernel
theorem dX2_link_91 : decode cX2_link 91 = .ok (.aload_n 0, 1) := by decide +kernel
theorem dX2_link_92 : decode cX2_link 92 = .ok (.iload_n 1, 1) := by decide +kernel
theorem dX2_link_93 : decode cX2_link 93 = .ok (.iload_n 2, 1) := by decide +kernel
theorem dX2_link_94 : decode cX2_link 94 = .ok (.iload_n 3, 1) := by decide +kernel
theorem dX2_link_95 : decode cX2_link 95 = .ok (.iload 4, 2) := by decide +kernel
theorem dX2_link_97 : decode cX2_link 97 = .ok (.invokevirtual 76, 3) := by decide +kernel
theorem dX2_link_100 : decode cX2_link 100 = .ok (.aload_n 0, 1) := by decide +kernel
theorem dX2_link_101 : decode cX2_link 101 = .ok (.iload_n 2, 1) := by decide +kernel
theorem dX2_link_102 : decode cX2_link 102 = .ok (.iload_n 1, 1) := by decide +kernel
theorem dX2_link_103 : decode cX2_link 103 = .ok (.iload_n 3, 1) := by decide +kernel
theorem dX2_link_104 : decode cX2_link 104 = .ok (.iload 4, 2) := by decide +kernel
theorem dX2_link_106 : decode cX2_link 106 = .ok (.invokevirtual 76, 3) := by decide +kernel
theorem dX2_link_109 : decode cX2_link 109 = .ok (.aload_n 0, 1) := by decide +kernel
theorem dX2_link_110 : decode cX2_link 110 = .ok (.dup, 1) := by decide +kernel
theorem dX2_link_111 : decode cX2_link 111 = .ok (.getfield 67, 3) := by decide +kernel
theorem dX2_link_114 : decode cX2_link 114 = .ok (.iconst 1, 1) := by decide +kernel
theorem dX2_link_115 : decode cX2_link 115 = .ok (.iadd, 1) := by decide +kernel
theorem dX2_link_116 : decode cX2_link 116 = .ok (.putfield 67, 3) := by decide +kernel
theorem dX2_link_119 : decode cX2_link 119 = .ok (.aload_n 0, 1) := by decide +kernel
theorem dX2_link_120 : decode cX2_link 120 = .ok (.iload_n 1, 1) := by decide +kernel
theorem dX2_link_121 : decode cX2_link 121 = .ok (.iload_n 2, 1) := by decide +kernel
theorem dX2_link_122 : decode cX2_link 122 = .ok (.invokevirtual 80, 3) := by decide +kernel
theorem dX2_link_125 : decode cX2_link 125 = .ok (.aload_n 0, 1) := by decide +kernel
theorem dX2_link_126 : decode cX2_link 126 = .ok (.getfield 67, 3) := by decide +kernel
theorem dX2_link_129 : decode cX2_link 129 = .ok (.ireturn, 1) := by decide +kernel
theorem dX2_fail_0 : decode cX2_fail 0 = .ok (.aload_n 0, 1) := by decide +kernel
theorem dX2_fail_1 : decode cX2_fail 1 = .ok (.iload_n 1, 1) := by decide +kernel
theorem dX2_fail_2 : decode cX2_fail 2 = .ok (.iload_n 2, 1) := by decide +kernel
theorem dX2_fail_3 : decode cX2_fail 3 = .ok (.invokevirtual 63, 3) := by decide +kernel
theorem dX2_fail_6 : decode cX2_fail 6 = .ok (.ifCond .ne 13, 3) := by decide +kernel
theorem dX2_fail_9 : decode cX2_fail 9 = .ok (.new 54, 3) := by decide +kernel
theorem dX2_fail_12 : decode cX2_fail 12 = .ok (.dup, 1) := by decide +kernel
theorem dX2_fail_13 : decode cX2_fail 13 = .ok (.ldc 84, 2) := by decide +kernel
theorem dX2_fail_15 : decode cX2_fail 15 = .ok (.invokespecial 58, 3) := by decide +kernel
theorem dX2_fail_18 : decode cX2_fail 18 = .ok (.athrow, 1) := by decide +kernel
theorem dX2_fail_19 : decode cX2_fail 19 = .ok (.aload_n 0, 1) := by decide +kernel
theorem dX2_fail_20 : decode cX2_fail 20 = .ok (.getfield 23, 3) := by decide +kernel
theorem dX2_fail_23 : decode cX2_fail 23 = .ok (.iload_n 1, 1) := by decide +kernel
theorem dX2_fail_24 : decode cX2_fail 24 = .ok (.iload_n 2, 1) := by decide +kernel
theorem dX2_fail_25 : decode cX2_fail 25 = .ok (.invokestatic 86, 3) := by decide +kernel
theorem dX2_fail_28 : decode cX2_fail 28 = .ok (.baload, 1) := by decide +kernel
theorem dX2_fail_29 : decode cX2_fail 29 = .ok (.ifCond .ne 5, 3) := by decide +kernel
theorem dX2_fail_32 : decode cX2_fail 32 = .ok (.iconst 0, 1) := by decide +kernel
theorem dX2_fail_33 : decode cX2_fail 33 = .ok (.ireturn, 1) := by decide +kernel
theorem dX2_fail_34 : decode cX2_fail 34 = .ok (.aload_n 0, 1) := by decide +kernel
theorem dX2_fail_35 : decode cX2_fail 35 = .ok (.iload_n 1, 1) := by decide +kernel
theorem dX2_fail_36 : decode cX2_fail 36 = .ok (.iload_n 2, 1) := by decide +kernel
theorem dX2_fail_37 : decode cX2_fail 37 = .ok (.invokevirtual 90, 3) := by decide +kernel
theorem dX2_fail_40 : decode cX2_fail 40 = .ok (.iconst 1, 1) := by decide +kernel
theorem dX2_fail_41 : decode cX2_fail 41 = .ok (.ireturn, 1) := by decide +kernel
theorem dX2_restore_0 : decode cX2_restore 0 = .ok (.aload_n 0, 1) := by decide +kernel
theorem dX2_restore_1 : decode cX2_restore 1 = .ok (.iload_n 1, 1) := by decide +kernel
theorem dX2_restore_2 : decode cX2_restore 2 = .ok (.iload_n 2, 1) := by decide +kernel
theorem dX2_restore_3 : decode cX2_restore 3 = .ok (.invokevirtual 63, 3) := by decide +kernel
theorem dX2_restore_6 : decode cX2_restore 6 = .ok (.ifCond .ne 13, 3) := by decide +kernel
theorem dX2_restore_9 : decode cX2_restore 9 = .ok (.new 54, 3) := by decide +kernel
theorem dX2_restore_12 : decode cX2_restore 12 = .ok (.dup, 1) := by decide +kernel
theorem dX2_restore_13 : decode cX2_restore 13 = .ok (.ldc 84, 2) := by decide +kernel
theorem dX2_restore_15 : decode cX2_restore 15 = .ok (.invokespecial 58, 3) := by decide +kernel
theorem dX2_restore_18 : decode cX2_restore 18 = .ok (.athrow, 1) := by decide +kernel
theorem dX2_restore_19 : decode cX2_restore 19 = .ok (.aload_n 0, 1) := by decide +kernel
theorem dX2_restore_20 : decode cX2_restore 20 = .ok (.getfield 23, 3) := by decide +kernel
theorem dX2_restore_23 : decode cX2_restore 23 = .ok (.iload_n 1, 1) := by decide +kernel
theorem dX2_restore_24 : decode cX2_restore 24 = .ok (.iload_n 2, 1) := by decide +kernel
theorem dX2_restore_25 : decode cX2_restore 25 = .ok (.invokestatic 86, 3) := by decide +kernel
theorem dX2_restore_28 : decode cX2_restore 28 = .ok (.baload, 1) := by decide +kernel
theorem dX2_restore_29 : decode cX2_restore 29 = .ok (.ifCond .eq 5, 3) := by decide +kernel
theorem dX2_restore_32 : decode cX2_restore 32 = .ok (.iconst 0, 1) := by decide +kernel
theorem dX2_restore_33 : decode cX2_restore 33 = .ok (.ireturn, 1) := by decide +kernel
theorem dX2_restore_34 : decode cX2_restore 34 = .ok (.aload_n 0, 1) := by decide +kernel
theorem dX2_restore_35 : decode cX2_restore 35 = .ok (.iload_n 1, 1) := by decide +kernel
theorem dX2_restore_36 : decode cX2_restore 36 = .ok (.iload_n 2, 1) := by decide +kernel
theorem dX2_restore_37 : decode cX2_restore 37 = .ok (.invokevirtual 80, 3) := by decide +kernel
theorem dX2_restore_40 : decode cX2_restore 40 = .ok (.iconst 1, 1) := by decide +kernel
theorem dX2_restore_41 : decode cX2_restore 41 = .ok (.ireturn, 1) := by decide +kernel
theorem dX2_start_0 : decode cX2_start 0 = .ok (.iload_n 1, 1) := by decide +kernel
theorem dX2_start_1 : decode cX2_start 1 = .ok (.invokestatic 50, 3) := by decide +kernel
theorem dX2_start_4 : decode cX2_start 4 = .ok (.ifCond .ne 13, 3) := by decide +kernel
theorem dX2_start_7 : decode cX2_start 7 = .ok (.new 54, 3) := by decide +kernel
theorem dX2_start_10 : decode cX2_start 10 = .ok (.dup, 1) := by decide +kernel
theorem dX2_start_11 : decode cX2_start 11 = .ok (.ldc 93, 2) := by decide +kernel
theorem dX2_start_13 : decode cX2_start 13 = .ok (.invokespecial 58, 3) := by decide +kernel
theorem dX2_start_16 : decode cX2_start 16 = .ok (.athrow, 1) := by decide +kernel
theorem dX2_start_17 : decode cX2_start 17 = .ok (.aload_n 0, 1) := by decide +kernel
theorem dX2_start_18 : decode cX2_start 18 = .ok (.getfield 9, 3) := by decide +kernel
theorem dX2_start_21 : decode cX2_start 21 = .ok (.iload_n 1, 1) := by decide +kernel
theorem dX2_start_22 : decode cX2_start 22 = .ok (.baload, 1) := by decide +kernel
theorem dX2_start_23 : decode cX2_start 23 = .ok (.ifCond .eq 5, 3) := by decide +kernel
theorem dX2_start_26 : decode cX2_start 26 = .ok (.iconst 0, 1) := by decide +kernel
theorem dX2_start_27 : decode cX2_start 27 = .ok (.ireturn, 1) := by decide +kernel
theorem dX2_start_28 : decode cX2_start 28 = .ok (.aload_n 0, 1) := by decide +kernel
theorem dX2_start_29 : decode cX2_start 29 = .ok (.getfield 9, 3) := by decide +kernel
theorem dX2_start_32 : decode cX2_start 32 = .ok (.iload_n 1, 1) := by decide +kernel
theorem dX2_start_33 : decode cX2_start 33 = .ok (.iconst 1, 1) := by decide +kernel
theorem dX2_start_34 : decode cX2_start 34 = .ok (.bastore, 1) := by decide +kernel
theorem dX2_start_35 : decode cX2_start 35 = .ok (.aload_n 0, 1) := by decide +kernel
theorem dX2_start_36 : decode cX2_start 36 = .ok (.getfield 13, 3) := by decide +kernel
theorem dX2_start_39 : decode cX2_start 39 = .ok (.iload_n 1, 1) := by decide +kernel
theorem dX2_start_40 : decode cX2_start 40 = .ok (.iconst 0, 1) := by decide +kernel
theorem dX2_start_41 : decode cX2_start 41 = .ok (.iastore, 1) := by decide +kernel
theorem dX2_start_42 : decode cX2_start 42 = .ok (.aload_n 0, 1) := by decide +kernel
theorem dX2_start_43 : decode cX2_start 43 = .ok (.iload_n 1, 1) := by decide +kernel
theorem dX2_start_44 : decode cX2_start 44 = .ok (.invokevirtual 95, 3) := by decide +kernel
theorem dX2_start_47 : decode cX2_start 47 = .ok (.aload_n 0, 1) := by decide +kernel
theorem dX2_start_48 : decode cX2_start 48 = .ok (.iload_n 1, 1) := by decide +kernel
theorem dX2_start_49 : decode cX2_start 49 = .ok (.invokevirtual 98, 3) := by decide +kernel
theorem dX2_start_52 : decode cX2_start 52 = .ok (.iconst 0, 1) := by decide +kernel
theorem dX2_start_53 : decode cX2_start 53 = .ok (.istore_n 2, 1) := by decide +kernel
theorem dX2_start_54 : decode cX2_start 54 = .ok (.iload_n 2, 1) := by decide +kernel
theorem dX2_start_55 : decode cX2_start 55 = .ok (.bipush 8, 2) := by decide +kernel
theorem dX2_start_57 : decode cX2_start 57 = .ok (.if_icmp .ge 24, 3) := by decide +kernel
theorem dX2_start_60 : decode cX2_start 60 = .ok (.aload_n 0, 1) := by decide +kernel
theorem dX2_start_61 : decode cX2_start 61 = .ok (.iload_n 2, 1) := by decide +kernel
theorem dX2_start_62 : decode cX2_start 62 = .ok (.iload_n 1, 1) := by decide +kernel
theorem dX2_start_63 : decode cX2_start 63 = .ok (.invokevirtual 101, 3) := by decide +kernel
theorem dX2_start_66 : decode cX2_start 66 = .ok (.ifCond .eq 9, 3) := by decide +kernel
theorem dX2_start_69 : decode cX2_start 69 = .ok (.aload_n 0, 1) := by decide +kernel
theorem dX2_start_70 : decode cX2_start 70 = .ok (.iload_n 2, 1) := by decide +kernel
theorem dX2_start_71 : decode cX2_start 71 = .ok (.iload_n 1, 1) := by decide +kernel
theorem dX2_start_72 : decode cX2_start 72 = .ok (.invokevirtual 104, 3) := by decide +kernel
theorem dX2_start_75 : decode cX2_start 75 = .ok (.iinc 2 1, 3) := by decide +kernel
theorem dX2_start_78 : decode cX2_start 78 = .ok (.goto (-24), 3) := by decide +kernel
theorem dX2_start_81 : decode cX2_start 81 = .ok (.iconst 1, 1) := by decide +kernel
theorem dX2_start_82 : decode cX2_start 82 = .ok (.ireturn, 1) := by decide +kernel
theorem dX2_crash_0 : decode cX2_crash 0 = .ok (.iload_n 1, 1) := by decide +kernel
theorem dX2_crash_1 : decode cX2_crash 1 = .ok (.invokestatic 50, 3) := by decide +kernel
theorem dX2_crash_4 : decode cX2_crash 4 = .ok (.ifCond .ne 13, 3) := by decide +kernel
theorem dX2_crash_7 : decode cX2_crash 7 = .ok (.new 54, 3) := by decide +kernel
theorem dX2_crash_10 : decode cX2_crash 10 = .ok (.dup, 1) := by decide +kernel
theorem dX2_crash_11 : decode cX2_crash 11 = .ok (.ldc 93, 2) := by decide +kernel
theorem dX2_crash_13 : decode cX2_crash 13 = .ok (.invokespecial 58, 3) := by decide +kernel
theorem dX2_crash_16 : decode cX2_crash 16 = .ok (.athrow, 1) := by decide +kernel
theorem dX2_crash_17 : decode cX2_crash 17 = .ok (.aload_n 0, 1) := by decide +kernel
theorem dX2_crash_18 : decode cX2_crash 18 = .ok (.getfield 9, 3) := by decide +kernel
theorem dX2_crash_21 : decode cX2_crash 21 = .ok (.iload_n 1, 1) := by decide +kernel
theorem dX2_crash_22 : decode cX2_crash 22 = .ok (.baload, 1) := by decide +kernel
theorem dX2_crash_23 : decode cX2_crash 23 = .ok (.ifCond .ne 5, 3) := by decide +kernel
theorem dX2_crash_26 : decode cX2_crash 26 = .ok (.iconst 0, 1) := by decide +kernel
theorem dX2_crash_27 : decode cX2_crash 27 = .ok (.ireturn, 1) := by decide +kernel
theorem dX2_crash_28 : decode cX2_crash 28 = .ok (.aload_n 0, 1) := by decide +kernel
theorem dX2_crash_29 : decode cX2_crash 29 = .ok (.getfield 9, 3) := by decide +kernel
theorem dX2_crash_32 : decode cX2_crash 32 = .ok (.iload_n 1, 1) := by decide +kernel
theorem dX2_crash_33 : decode cX2_crash 33 = .ok (.iconst 0, 1) := by decide +kernel
theorem dX2_crash_34 : decode cX2_crash 34 = .ok (.bastore, 1) := by decide +kernel
theorem dX2_crash_35 : decode cX2_crash 35 = .ok (.iconst 0, 1) := by decide +kernel
theorem dX2_crash_36 : decode cX2_crash 36 = .ok (.istore_n 2, 1) := by decide +kernel
theorem dX2_crash_37 : decode cX2_crash 37 = .ok (.iload_n 2, 1) := by decide +kernel
theorem dX2_crash_38 : decode cX2_crash 38 = .ok (.bipush 8, 2) := by decide +kernel
theorem dX2_crash_40 : decode cX2_crash 40 = .ok (.if_icmp .ge 27, 3) := by decide +kernel
theorem dX2_crash_43 : decode cX2_crash 43 = .ok (.aload_n 0, 1) := by decide +kernel
theorem dX2_crash_44 : decode cX2_crash 44 = .ok (.getfield 31, 3) := by decide +kernel
theorem dX2_crash_47 : decode cX2_crash 47 = .ok (.iload_n 1, 1) := by decide +kernel
theorem dX2_crash_48 : decode cX2_crash 48 = .ok (.iload_n 2, 1) := by decide +kernel
theorem dX2_crash_49 : decode cX2_crash 49 = .ok (.invokestatic 107, 3) := by decide +kernel
theorem dX2_crash_52 : decode cX2_crash 52 = .ok (.invokevirtual 110, 3) := by decide +kernel
theorem dX2_crash_55 : decode cX2_crash 55 = .ok (.aload_n 0, 1) := by decide +kernel
theorem dX2_crash_56 : decode cX2_crash 56 = .ok (.iload_n 1, 1) := by decide +kernel
theorem dX2_crash_57 : decode cX2_crash 57 = .ok (.iload_n 2, 1) := by decide +kernel
theorem dX2_crash_58 : decode cX2_crash 58 = .ok (.invokevirtual 113, 3) := by decide +kernel
theorem dX2_crash_61 : decode cX2_crash 61 = .ok (.iinc 2 1, 3) := by decide +kernel
theorem dX2_crash_64 : decode cX2_crash 64 = .ok (.goto (-27), 3) := by decide +kernel
theorem dX2_crash_67 : decode cX2_crash 67 = .ok (.aload_n 0, 1) := by decide +kernel
theorem dX2_crash_68 : decode cX2_crash 68 = .ok (.iload_n 1, 1) := by decide +kernel
theorem dX2_crash_69 : decode cX2_crash 69 = .ok (.invokevirtual 95, 3) := by decide +kernel
theorem dX2_crash_72 : decode cX2_crash 72 = .ok (.iconst 1, 1) := by decide +kernel
theorem dX2_crash_73 : decode cX2_crash 73 = .ok (.ireturn, 1) := by decide +kernel
theorem dX2_tick_0 : decode cX2_tick 0 = .ok (.iload_n 1, 1) := by decide +kernel
theorem dX2_tick_1 : decode cX2_tick 1 = .ok (.iconst 1, 1) := by decide +kernel
theorem dX2_tick_2 : decode cX2_tick 2 = .ok (.if_icmp .lt 9, 3) := by decide +kernel
theorem dX2_tick_5 : decode cX2_tick 5 = .ok (.iload_n 1, 1) := by decide +kernel
theorem dX2_tick_6 : decode cX2_tick 6 = .ok (.bipush 50, 2) := by decide +kernel
theorem dX2_tick_8 : decode cX2_tick 8 = .ok (.if_icmp .le 13, 3) := by decide +kernel
theorem dX2_tick_11 : decode cX2_tick 11 = .ok (.new 54, 3) := by decide +kernel
theorem dX2_tick_14 : decode cX2_tick 14 = .ok (.dup, 1) := by decide +kernel
theorem dX2_tick_15 : decode cX2_tick 15 = .ok (.ldc 116, 2) := by decide +kernel
theorem dX2_tick_17 : decode cX2_tick 17 = .ok (.invokespecial 58, 3) := by decide +kernel
theorem dX2_tick_20 : decode cX2_tick 20 = .ok (.athrow, 1) := by decide +kernel
theorem dX2_tick_21 : decode cX2_tick 21 = .ok (.iconst 0, 1) := by decide +kernel
theorem dX2_tick_22 : decode cX2_tick 22 = .ok (.istore_n 2, 1) := by decide +kernel
theorem dX2_tick_23 : decode cX2_tick 23 = .ok (.iload_n 2, 1) := by decide +kernel
theorem dX2_tick_24 : decode cX2_tick 24 = .ok (.iload_n 1, 1) := by decide +kernel
theorem dX2_tick_25 : decode cX2_tick 25 = .ok (.if_icmp .ge 59, 3) := by decide +kernel
theorem dX2_tick_28 : decode cX2_tick 28 = .ok (.aload_n 0, 1) := by decide +kernel
theorem dX2_tick_29 : decode cX2_tick 29 = .ok (.dup, 1) := by decide +kernel
theorem dX2_tick_30 : decode cX2_tick 30 = .ok (.getfield 118, 3) := by decide +kernel
theorem dX2_tick_33 : decode cX2_tick 33 = .ok (.iconst 1, 1) := by decide +kernel
theorem dX2_tick_34 : decode cX2_tick 34 = .ok (.iadd, 1) := by decide +kernel
theorem dX2_tick_35 : decode cX2_tick 35 = .ok (.putfield 118, 3) := by decide +kernel
theorem dX2_tick_38 : decode cX2_tick 38 = .ok (.aload_n 0, 1) := by decide +kernel
theorem dX2_tick_39 : decode cX2_tick 39 = .ok (.getfield 31, 3) := by decide +kernel
theorem dX2_tick_42 : decode cX2_tick 42 = .ok (.aload_n 0, 1) := by decide +kernel
theorem dX2_tick_43 : decode cX2_tick 43 = .ok (.getfield 118, 3) := by decide +kernel
theorem dX2_tick_46 : decode cX2_tick 46 = .ok (.bipush 60, 2) := by decide +kernel
theorem dX2_tick_48 : decode cX2_tick 48 = .ok (.isub, 1) := by decide +kernel
theorem dX2_tick_49 : decode cX2_tick 49 = .ok (.invokevirtual 121, 3) := by decide +kernel
theorem dX2_tick_52 : decode cX2_tick 52 = .ok (.aload_n 0, 1) := by decide +kernel
theorem dX2_tick_53 : decode cX2_tick 53 = .ok (.getfield 35, 3) := by decide +kernel
theorem dX2_tick_56 : decode cX2_tick 56 = .ok (.aload_n 0, 1) := by decide +kernel
theorem dX2_tick_57 : decode cX2_tick 57 = .ok (.getfield 118, 3) := by decide +kernel
theorem dX2_tick_60 : decode cX2_tick 60 = .ok (.bipush 60, 2) := by decide +kernel
theorem dX2_tick_62 : decode cX2_tick 62 = .ok (.isub, 1) := by decide +kernel
theorem dX2_tick_63 : decode cX2_tick 63 = .ok (.invokevirtual 121, 3) := by decide +kernel
theorem dX2_tick_66 : decode cX2_tick 66 = .ok (.aload_n 0, 1) := by decide +kernel
theorem dX2_tick_67 : decode cX2_tick 67 = .ok (.invokevirtual 124, 3) := by decide +kernel
theorem dX2_tick_70 : decode cX2_tick 70 = .ok (.aload_n 0, 1) := by decide +kernel
theorem dX2_tick_71 : decode cX2_tick 71 = .ok (.invokevirtual 127, 3) := by decide +kernel
theorem dX2_tick_74 : decode cX2_tick 74 = .ok (.aload_n 0, 1) := by decide +kernel
theorem dX2_tick_75 : decode cX2_tick 75 = .ok (.invokevirtual 130, 3) := by decide +kernel
theorem dX2_tick_78 : decode cX2_tick 78 = .ok (.iinc 2 1, 3) := by decide +kernel
theorem dX2_tick_81 : decode cX2_tick 81 = .ok (.goto (-58), 3) := by decide +kernel
theorem dX2_tick_84 : decode cX2_tick 84 = .ok (.aload_n 0, 1) := by decide +kernel
theorem dX2_tick_85 : decode cX2_tick 85 = .ok (.getfield 118, 3) := by decide +kernel
theorem dX2_tick_88 : decode cX2_tick 88 = .ok (.ireturn, 1) := by decide +kernel
theorem dX2_news_0 : decode cX2_news 0 = .ok (.iload_n 1, 1) := by decide +kernel
theorem dX2_news_1 : decode cX2_news 1 = .ok (.invokestatic 50, 3) := by decide +kernel
theorem dX2_news_4 : decode cX2_news 4 = .ok (.ifCond .eq 10, 3) := by decide +kernel
theorem dX2_news_7 : decode cX2_news 7 = .ok (.iload_n 2, 1) := by decide +kernel
theorem dX2_news_8 : decode cX2_news 8 = .ok (.invokestatic 50, 3) := by decide +kernel
theorem dX2_news_11 : decode cX2_news 11 = .ok (.ifCond .ne 5, 3) := by decide +kernel
theorem dX2_news_14 : decode cX2_news 14 = .ok (.iconst (-1), 1) := by decide +kernel
theorem dX2_news_15 : decode cX2_news 15 = .ok (.ireturn, 1) := by decide +kernel
theorem dX2_news_16 : decode cX2_news 16 = .ok (.iload_n 1, 1) := by decide +kernel
theorem dX2_news_17 : decode cX2_news 17 = .ok (.iload_n 2, 1) := by decide +kernel
theorem dX2_news_18 : decode cX2_news 18 = .ok (.invokestatic 107, 3) := by decide +kernel
theorem dX2_news_21 : decode cX2_news 21 = .ok (.istore 4, 2) := by decide +kernel
theorem dX2_news_23 : decode cX2_news 23 = .ok (.aload_n 0, 1) := by decide +kernel
theorem dX2_news_24 : decode cX2_news 24 = .ok (.getfield 31, 3) := by decide +kernel
theorem dX2_news_27 : decode cX2_news 27 = .ok (.getfield 133, 3) := by decide +kernel
theorem dX2_news_30 : decode cX2_news 30 = .ok (.iload 4, 2) := by decide +kernel
theorem dX2_news_32 : decode cX2_news 32 = .ok (.iaload, 1) := by decide +kernel
theorem dX2_news_33 : decode cX2_news 33 = .ok (.ifCond .ne 5, 3) := by decide +kernel
theorem dX2_news_36 : decode cX2_news 36 = .ok (.iconst (-1), 1) := by decide +kernel
theorem dX2_news_37 : decode cX2_news 37 = .ok (.ireturn, 1) := by decide +kernel
theorem dX2_news_38 : decode cX2_news 38 = .ok (.iload_n 3, 1) := by decide +kernel
theorem dX2_news_39 : decode cX2_news 39 = .ok (.tableswitch 62 0 2 #[25, 36, 52], 25) := by decide +kernel
theorem dX2_news_64 : decode cX2_news 64 = .ok (.aload_n 0, 1) := by decide +kernel
theorem dX2_news_65 : decode cX2_news 65 = .ok (.getfield 31, 3) := by decide +kernel
theorem dX2_news_68 : decode cX2_news 68 = .ok (.getfield 133, 3) := by decide +kernel
theorem dX2_news_71 : decode cX2_news 71 = .ok (.iload 4, 2) := by decide +kernel
theorem dX2_news_73 : decode cX2_news 73 = .ok (.iaload, 1) := by decide +kernel
theorem dX2_news_74 : decode cX2_news 74 = .ok (.ireturn, 1) := by decide +kernel
theorem dX2_news_75 : decode cX2_news 75 = .ok (.aload_n 0, 1) := by decide +kernel
theorem dX2_news_76 : decode cX2_news 76 = .ok (.getfield 118, 3) := by decide +kernel
theorem dX2_news_79 : decode cX2_news 79 = .ok (.aload_n 0, 1) := by decide +kernel
theorem dX2_news_80 : decode cX2_news 80 = .ok (.getfield 31, 3) := by decide +kernel
theorem dX2_news_83 : decode cX2_news 83 = .ok (.getfield 136, 3) := by decide +kernel
theorem dX2_news_86 : decode cX2_news 86 = .ok (.iload 4, 2) := by decide +kernel
theorem dX2_news_88 : decode cX2_news 88 = .ok (.iaload, 1) := by decide +kernel
theorem dX2_news_89 : decode cX2_news 89 = .ok (.isub, 1) := by decide +kernel
theorem dX2_news_90 : decode cX2_news 90 = .ok (.ireturn, 1) := by decide +kernel
theorem dX2_news_91 : decode cX2_news 91 = .ok (.aload_n 0, 1) := by decide +kernel
theorem dX2_news_92 : decode cX2_news 92 = .ok (.getfield 31, 3) := by decide +kernel
theorem dX2_news_95 : decode cX2_news 95 = .ok (.iload 4, 2) := by decide +kernel
theorem dX2_news_97 : decode cX2_news 97 = .ok (.invokevirtual 139, 3) := by decide +kernel
theorem dX2_news_100 : decode cX2_news 100 = .ok (.ireturn, 1) := by decide +kernel
theorem dX2_news_101 : decode cX2_news 101 = .ok (.iload_n 3, 1) := by decide +kernel
theorem dX2_news_102 : decode cX2_news 102 = .ok (.bipush 10, 2) := by decide +kernel
theorem dX2_news_104 : decode cX2_news 104 = .ok (.if_icmp .lt 29, 3) := by decide +kernel
theorem dX2_news_107 : decode cX2_news 107 = .ok (.iload_n 3, 1) := by decide +kernel
theorem dX2_news_108 : decode cX2_news 108 = .ok (.bipush 10, 2) := by decide +kernel
theorem dX2_news_110 : decode cX2_news 110 = .ok (.isub, 1) := by decide +kernel
theorem dX2_news_111 : decode cX2_news 111 = .ok (.invokestatic 50, 3) := by decide +kernel
theorem dX2_news_114 : decode cX2_news 114 = .ok (.ifCond .eq 19, 3) := by decide +kernel
theorem dX2_news_117 : decode cX2_news 117 = .ok (.aload_n 0, 1) := by decide +kernel
theorem dX2_news_118 : decode cX2_news 118 = .ok (.getfield 31, 3) := by decide +kernel
theorem dX2_news_121 : decode cX2_news 121 = .ok (.iload 4, 2) := by decide +kernel
theorem dX2_news_123 : decode cX2_news 123 = .ok (.iload_n 3, 1) := by decide +kernel
theorem dX2_news_124 : decode cX2_news 124 = .ok (.bipush 10, 2) := by decide +kernel
theorem dX2_news_126 : decode cX2_news 126 = .ok (.isub, 1) := by decide +kernel
theorem dX2_news_127 : decode cX2_news 127 = .ok (.invokevirtual 143, 3) := by decide +kernel
theorem dX2_news_130 : decode cX2_news 130 = .ok (.goto 4, 3) := by decide +kernel
theorem dX2_news_133 : decode cX2_news 133 = .ok (.iconst (-1), 1) := by decide +kernel
theorem dX2_news_134 : decode cX2_news 134 = .ok (.ireturn, 1) := by decide +kernel
theorem dX2_flying_0 : decode cX2_flying 0 = .ok (.aload_n 0, 1) := by decide +kernel
theorem dX2_flying_1 : decode cX2_flying 1 = .ok (.getfield 35, 3) := by decide +kernel
theorem dX2_flying_4 : decode cX2_flying 4 = .ok (.getfield 146, 3) := by decide +kernel
theorem dX2_flying_7 : decode cX2_flying 7 = .ok (.ireturn, 1) := by decide +kernel
theorem dX2_distance_0 : decode cX2_distance 0 = .ok (.iload_n 1, 1) := by decide +kernel
theorem dX2_distance_1 : decode cX2_distance 1 = .ok (.invokestatic 50, 3) := by decide +kernel
theorem dX2_distance_4 : decode cX2_distance 4 = .ok (.ifCond .eq 19, 3) := by decide +kernel
theorem dX2_distance_7 : decode cX2_distance 7 = .ok (.iload_n 2, 1) := by decide +kernel
theorem dX2_distance_8 : decode cX2_distance 8 = .ok (.invokestatic 50, 3) := by decide +kernel
theorem dX2_distance_11 : decode cX2_distance 11 = .ok (.ifCond .eq 12, 3) := by decide +kernel
theorem dX2_distance_14 : decode cX2_distance 14 = .ok (.aload_n 0, 1) := by decide +kernel
theorem dX2_distance_15 : decode cX2_distance 15 = .ok (.getfield 9, 3) := by decide +kernel
theorem dX2_distance_18 : decode cX2_distance 18 = .ok (.iload_n 1, 1) := by decide +kernel
theorem dX2_distance_19 : decode cX2_distance 19 = .ok (.baload, 1) := by decide +kernel
theorem dX2_distance_20 : decode cX2_distance 20 = .ok (.ifCond .ne 5, 3) := by decide +kernel
theorem dX2_distance_23 : decode cX2_distance 23 = .ok (.iconst (-1), 1) := by decide +kernel
theorem dX2_distance_24 : decode cX2_distance 24 = .ok (.ireturn, 1) := by decide +kernel
theorem dX2_distance_25 : decode cX2_distance 25 = .ok (.aload_n 0, 1) := by decide +kernel
theorem dX2_distance_26 : decode cX2_distance 26 = .ok (.iload_n 1, 1) := by decide +kernel
theorem dX2_distance_27 : decode cX2_distance 27 = .ok (.iload_n 2, 1) := by decide +kernel
theorem dX2_distance_28 : decode cX2_distance 28 = .ok (.invokevirtual 149, 3) := by decide +kernel
theorem dX2_distance_31 : decode cX2_distance 31 = .ok (.aload_n 0, 1) := by decide +kernel
theorem dX2_distance_32 : decode cX2_distance 32 = .ok (.getfield 47, 3) := by decide +kernel
theorem dX2_distance_35 : decode cX2_distance 35 = .ok (.iload_n 1, 1) := by decide +kernel
theorem dX2_distance_36 : decode cX2_distance 36 = .ok (.iaload, 1) := by decide +kernel
theorem dX2_distance_37 : decode cX2_distance 37 = .ok (.sipush 1000, 3) := by decide +kernel
theorem dX2_distance_40 : decode cX2_distance 40 = .ok (.if_icmp .ge 12, 3) := by decide +kernel
theorem dX2_distance_43 : decode cX2_distance 43 = .ok (.aload_n 0, 1) := by decide +kernel
theorem dX2_distance_44 : decode cX2_distance 44 = .ok (.getfield 47, 3) := by decide +kernel
theorem dX2_distance_47 : decode cX2_distance 47 = .ok (.iload_n 1, 1) := by decide +kernel
theorem dX2_distance_48 : decode cX2_distance 48 = .ok (.iaload, 1) := by decide +kernel
theorem dX2_distance_49 : decode cX2_distance 49 = .ok (.goto 4, 3) := by decide +kernel
theorem dX2_distance_52 : decode cX2_distance 52 = .ok (.iconst (-1), 1) := by decide +kernel
theorem dX2_distance_53 : decode cX2_distance 53 = .ok (.ireturn, 1) := by decide +kernel
theorem dX2_next_0 : decode cX2_next 0 = .ok (.iload_n 1, 1) := by decide +kernel
theorem dX2_next_1 : decode cX2_next 1 = .ok (.invokestatic 50, 3) := by decide +kernel
theorem dX2_next_4 : decode cX2_next 4 = .ok (.ifCond .eq 19, 3) := by decide +kernel
theorem dX2_next_7 : decode cX2_next 7 = .ok (.iload_n 2, 1) := by decide +kernel
theorem dX2_next_8 : decode cX2_next 8 = .ok (.invokestatic 50, 3) := by decide +kernel
theorem dX2_next_11 : decode cX2_next 11 = .ok (.ifCond .eq 12, 3) := by decide +kernel
theorem dX2_next_14 : decode cX2_next 14 = .ok (.aload_n 0, 1) := by decide +kernel
theorem dX2_next_15 : decode cX2_next 15 = .ok (.getfield 9, 3) := by decide +kernel
theorem dX2_next_18 : decode cX2_next 18 = .ok (.iload_n 1, 1) := by decide +kernel
theorem dX2_next_19 : decode cX2_next 19 = .ok (.baload, 1) := by decide +kernel
theorem dX2_next_20 : decode cX2_next 20 = .ok (.ifCond .ne 5, 3) := by decide +kernel
theorem dX2_next_23 : decode cX2_next 23 = .ok (.iconst (-1), 1) := by decide +kernel
theorem dX2_next_24 : decode cX2_next 24 = .ok (.ireturn, 1) := by decide +kernel
theorem dX2_next_25 : decode cX2_next 25 = .ok (.aload_n 0, 1) := by decide +kernel
theorem dX2_next_26 : decode cX2_next 26 = .ok (.iload_n 1, 1) := by decide +kernel
theorem dX2_next_27 : decode cX2_next 27 = .ok (.iload_n 2, 1) := by decide +kernel
theorem dX2_next_28 : decode cX2_next 28 = .ok (.invokevirtual 152, 3) := by decide +kernel
theorem dX2_next_31 : decode cX2_next 31 = .ok (.ireturn, 1) := by decide +kernel
theorem dX2_send_0 : decode cX2_send 0 = .ok (.iload_n 1, 1) := by decide +kernel
theorem dX2_send_1 : decode cX2_send 1 = .ok (.invokestatic 50, 3) := by decide +kernel
theorem dX2_send_4 : decode cX2_send 4 = .ok (.ifCond .eq 20, 3) := by decide +kernel
theorem dX2_send_7 : decode cX2_send 7 = .ok (.iload_n 2, 1) := by decide +kernel
theorem dX2_send_8 : decode cX2_send 8 = .ok (.invokestatic 50, 3) := by decide +kernel
theorem dX2_send_11 : decode cX2_send 11 = .ok (.ifCond .eq 13, 3) := by decide +kernel
theorem dX2_send_14 : decode cX2_send 14 = .ok (.iload_n 3, 1) := by decide +kernel
theorem dX2_send_15 : decode cX2_send 15 = .ok (.ifCond .lt 9, 3) := by decide +kernel
theorem dX2_send_18 : decode cX2_send 18 = .ok (.iload_n 3, 1) := by decide +kernel
theorem dX2_send_19 : decode cX2_send 19 = .ok (.bipush 30, 2) := by decide +kernel
theorem dX2_send_21 : decode cX2_send 21 = .ok (.if_icmp .le 13, 3) := by decide +kernel
theorem dX2_send_24 : decode cX2_send 24 = .ok (.new 54, 3) := by decide +kernel
theorem dX2_send_27 : decode cX2_send 27 = .ok (.dup, 1) := by decide +kernel
theorem dX2_send_28 : decode cX2_send 28 = .ok (.ldc 155, 2) := by decide +kernel
theorem dX2_send_30 : decode cX2_send 30 = .ok (.invokespecial 58, 3) := by decide +kernel
theorem dX2_send_33 : decode cX2_send 33 = .ok (.athrow, 1) := by decide +kernel
theorem dX2_send_34 : decode cX2_send 34 = .ok (.aload_n 0, 1) := by decide +kernel
theorem dX2_send_35 : decode cX2_send 35 = .ok (.getfield 9, 3) := by decide +kernel
theorem dX2_send_38 : decode cX2_send 38 = .ok (.iload_n 1, 1) := by decide +kernel
theorem dX2_send_39 : decode cX2_send 39 = .ok (.baload, 1) := by decide +kernel
theorem dX2_send_40 : decode cX2_send 40 = .ok (.ifCond .eq 12, 3) := by decide +kernel
theorem dX2_send_43 : decode cX2_send 43 = .ok (.aload_n 0, 1) := by decide +kernel
theorem dX2_send_44 : decode cX2_send 44 = .ok (.getfield 157, 3) := by decide +kernel
theorem dX2_send_47 : decode cX2_send 47 = .ok (.bipush 20, 2) := by decide +kernel
theorem dX2_send_49 : decode cX2_send 49 = .ok (.if_icmp .lt 13, 3) := by decide +kernel
theorem dX2_send_52 : decode cX2_send 52 = .ok (.new 71, 3) := by decide +kernel
theorem dX2_send_55 : decode cX2_send 55 = .ok (.dup, 1) := by decide +kernel
theorem dX2_send_56 : decode cX2_send 56 = .ok (.ldc 160, 2) := by decide +kernel
theorem dX2_send_58 : decode cX2_send 58 = .ok (.invokespecial 75, 3) := by decide +kernel
theorem dX2_send_61 : decode cX2_send 61 = .ok (.athrow, 1) := by decide +kernel
theorem dX2_send_62 : decode cX2_send 62 = .ok (.new 41, 3) := by decide +kernel
theorem dX2_send_65 : decode cX2_send 65 = .ok (.dup, 1) := by decide +kernel
theorem dX2_send_66 : decode cX2_send 66 = .ok (.iload_n 2, 1) := by decide +kernel
theorem dX2_send_67 : decode cX2_send 67 = .ok (.iload_n 3, 1) := by decide +kernel
theorem dX2_send_68 : decode cX2_send 68 = .ok (.invokespecial 162, 3) := by decide +kernel
theorem dX2_send_71 : decode cX2_send 71 = .ok (.astore 4, 2) := by decide +kernel
theorem dX2_send_73 : decode cX2_send 73 = .ok (.aload_n 0, 1) := by decide +kernel
theorem dX2_send_74 : decode cX2_send 74 = .ok (.getfield 43, 3) := by decide +kernel
theorem dX2_send_77 : decode cX2_send 77 = .ok (.aload_n 0, 1) := by decide +kernel
theorem dX2_send_78 : decode cX2_send 78 = .ok (.getfield 157, 3) := by decide +kernel
theorem dX2_send_81 : decode cX2_send 81 = .ok (.aload 4, 2) := by decide +kernel
theorem dX2_send_83 : decode cX2_send 83 = .ok (.aastore, 1) := by decide +kernel
theorem dX2_send_84 : decode cX2_send 84 = .ok (.aload_n 0, 1) := by decide +kernel
theorem dX2_send_85 : decode cX2_send 85 = .ok (.dup, 1) := by decide +kernel
theorem dX2_send_86 : decode cX2_send 86 = .ok (.getfield 157, 3) := by decide +kernel
theorem dX2_send_89 : decode cX2_send 89 = .ok (.iconst 1, 1) := by decide +kernel
theorem dX2_send_90 : decode cX2_send 90 = .ok (.iadd, 1) := by decide +kernel
theorem dX2_send_91 : decode cX2_send 91 = .ok (.putfield 157, 3) := by decide +kernel
theorem dX2_send_94 : decode cX2_send 94 = .ok (.aload_n 0, 1) := by decide +kernel
theorem dX2_send_95 : decode cX2_send 95 = .ok (.aload 4, 2) := by decide +kernel
theorem dX2_send_97 : decode cX2_send 97 = .ok (.iload_n 1, 1) := by decide +kernel
theorem dX2_send_98 : decode cX2_send 98 = .ok (.invokevirtual 164, 3) := by decide +kernel
theorem dX2_send_101 : decode cX2_send 101 = .ok (.aload_n 0, 1) := by decide +kernel
theorem dX2_send_102 : decode cX2_send 102 = .ok (.getfield 157, 3) := by decide +kernel
theorem dX2_send_105 : decode cX2_send 105 = .ok (.iconst 1, 1) := by decide +kernel
theorem dX2_send_106 : decode cX2_send 106 = .ok (.isub, 1) := by decide +kernel
theorem dX2_send_107 : decode cX2_send 107 = .ok (.ireturn, 1) := by decide +kernel
theorem dX2_packet_0 : decode cX2_packet 0 = .ok (.iload_n 1, 1) := by decide +kernel
theorem dX2_packet_1 : decode cX2_packet 1 = .ok (.ifCond .lt 11, 3) := by decide +kernel
theorem dX2_packet_4 : decode cX2_packet 4 = .ok (.iload_n 1, 1) := by decide +kernel
theorem dX2_packet_5 : decode cX2_packet 5 = .ok (.aload_n 0, 1) := by decide +kernel
theorem dX2_packet_6 : decode cX2_packet 6 = .ok (.getfield 157, 3) := by decide +kernel
theorem dX2_packet_9 : decode cX2_packet 9 = .ok (.if_icmp .lt 5, 3) := by decide +kernel
theorem dX2_packet_12 : decode cX2_packet 12 = .ok (.iconst (-1), 1) := by decide +kernel
theorem dX2_packet_13 : decode cX2_packet 13 = .ok (.ireturn, 1) := by decide +kernel
theorem dX2_packet_14 : decode cX2_packet 14 = .ok (.aload_n 0, 1) := by decide +kernel
theorem dX2_packet_15 : decode cX2_packet 15 = .ok (.getfield 43, 3) := by decide +kernel
theorem dX2_packet_18 : decode cX2_packet 18 = .ok (.iload_n 1, 1) := by decide +kernel
theorem dX2_packet_19 : decode cX2_packet 19 = .ok (.aaload, 1) := by decide +kernel
theorem dX2_packet_20 : decode cX2_packet 20 = .ok (.astore_n 3, 1) := by decide +kernel
theorem dX2_packet_21 : decode cX2_packet 21 = .ok (.aload_n 3, 1) := by decide +kernel
theorem dX2_packet_22 : decode cX2_packet 22 = .ok (.ifnonnull 5, 3) := by decide +kernel
theorem dX2_packet_25 : decode cX2_packet 25 = .ok (.iconst (-1), 1) := by decide +kernel
theorem dX2_packet_26 : decode cX2_packet 26 = .ok (.ireturn, 1) := by decide +kernel
theorem dX2_packet_27 : decode cX2_packet 27 = .ok (.iload_n 2, 1) := by decide +kernel
theorem dX2_packet_28 : decode cX2_packet 28 = .ok (.tableswitch 43 0 2 #[28, 33, 38], 28) := by decide +kernel
theorem dX2_packet_56 : decode cX2_packet 56 = .ok (.aload_n 3, 1) := by decide +kernel
theorem dX2_packet_57 : decode cX2_packet 57 = .ok (.getfield 168, 3) := by decide +kernel
theorem dX2_packet_60 : decode cX2_packet 60 = .ok (.ireturn, 1) := by decide +kernel
theorem dX2_packet_61 : decode cX2_packet 61 = .ok (.aload_n 3, 1) := by decide +kernel
theorem dX2_packet_62 : decode cX2_packet 62 = .ok (.getfield 171, 3) := by decide +kernel
theorem dX2_packet_65 : decode cX2_packet 65 = .ok (.ireturn, 1) := by decide +kernel
theorem dX2_packet_66 : decode cX2_packet 66 = .ok (.aload_n 3, 1) := by decide +kernel
theorem dX2_packet_67 : decode cX2_packet 67 = .ok (.getfield 174, 3) := by decide +kernel
theorem dX2_packet_70 : decode cX2_packet 70 = .ok (.ireturn, 1) := by decide +kernel
theorem dX2_packet_71 : decode cX2_packet 71 = .ok (.iload_n 2, 1) := by decide +kernel
theorem dX2_packet_72 : decode cX2_packet 72 = .ok (.bipush 10, 2) := by decide +kernel
theorem dX2_packet_74 : decode cX2_packet 74 = .ok (.if_icmp .lt 26, 3) := by decide +kernel
theorem dX2_packet_77 : decode cX2_packet 77 = .ok (.iload_n 2, 1) := by decide +kernel
theorem dX2_packet_78 : decode cX2_packet 78 = .ok (.bipush 10, 2) := by decide +kernel
theorem dX2_packet_80 : decode cX2_packet 80 = .ok (.isub, 1) := by decide +kernel
theorem dX2_packet_81 : decode cX2_packet 81 = .ok (.aload_n 3, 1) := by decide +kernel
theorem dX2_packet_82 : decode cX2_packet 82 = .ok (.getfield 174, 3) := by decide +kernel
theorem dX2_packet_85 : decode cX2_packet 85 = .ok (.if_icmp .ge 15, 3) := by decide +kernel
theorem dX2_packet_88 : decode cX2_packet 88 = .ok (.aload_n 3, 1) := by decide +kernel
theorem dX2_packet_89 : decode cX2_packet 89 = .ok (.getfield 177, 3) := by decide +kernel
theorem dX2_packet_92 : decode cX2_packet 92 = .ok (.iload_n 2, 1) := by decide +kernel
theorem dX2_packet_93 : decode cX2_packet 93 = .ok (.bipush 10, 2) := by decide +kernel
theorem dX2_packet_95 : decode cX2_packet 95 = .ok (.isub, 1) := by decide +kernel
theorem dX2_packet_96 : decode cX2_packet 96 = .ok (.iaload, 1) := by decide +kernel
theorem dX2_packet_97 : decode cX2_packet 97 = .ok (.goto 4, 3) := by decide +kernel
theorem dX2_packet_100 : decode cX2_packet 100 = .ok (.iconst (-1), 1) := by decide +kernel
theorem dX2_packet_101 : decode cX2_packet 101 = .ok (.ireturn, 1) := by decide +kernel
theorem dX2_settled_0 : decode cX2_settled 0 = .ok (.aload_n 0, 1) := by decide +kernel
theorem dX2_settled_1 : decode cX2_settled 1 = .ok (.getfield 35, 3) := by decide +kernel
theorem dX2_settled_4 : decode cX2_settled 4 = .ok (.getfield 146, 3) := by decide +kernel
theorem dX2_settled_7 : decode cX2_settled 7 = .ok (.ifCond .le 5, 3) := by decide +kernel
theorem dX2_settled_10 : decode cX2_settled 10 = .ok (.iconst 0, 1) := by decide +kernel
theorem dX2_settled_11 : decode cX2_settled 11 = .ok (.ireturn, 1) := by decide +kernel
theorem dX2_settled_12 : decode cX2_settled 12 = .ok (.iconst 0, 1) := by decide +kernel
theorem dX2_settled_13 : decode cX2_settled 13 = .ok (.istore_n 1, 1) := by decide +kernel
theorem dX2_settled_14 : decode cX2_settled 14 = .ok (.iload_n 1, 1) := by decide +kernel
theorem dX2_settled_15 : decode cX2_settled 15 = .ok (.bipush 8, 2) := by decide +kernel
theorem dX2_settled_17 : decode cX2_settled 17 = .ok (.if_icmp .ge 28, 3) := by decide +kernel
theorem dX2_settled_20 : decode cX2_settled 20 = .ok (.aload_n 0, 1) := by decide +kernel
theorem dX2_settled_21 : decode cX2_settled 21 = .ok (.getfield 9, 3) := by decide +kernel
theorem dX2_settled_24 : decode cX2_settled 24 = .ok (.iload_n 1, 1) := by decide +kernel
theorem dX2_settled_25 : decode cX2_settled 25 = .ok (.baload, 1) := by decide +kernel
theorem dX2_settled_26 : decode cX2_settled 26 = .ok (.ifCond .eq 13, 3) := by decide +kernel
theorem dX2_settled_29 : decode cX2_settled 29 = .ok (.aload_n 0, 1) := by decide +kernel
theorem dX2_settled_30 : decode cX2_settled 30 = .ok (.iload_n 1, 1) := by decide +kernel
theorem dX2_settled_31 : decode cX2_settled 31 = .ok (.invokevirtual 180, 3) := by decide +kernel
theorem dX2_settled_34 : decode cX2_settled 34 = .ok (.ifCond .ne 5, 3) := by decide +kernel
theorem dX2_settled_37 : decode cX2_settled 37 = .ok (.iconst 0, 1) := by decide +kernel
theorem dX2_settled_38 : decode cX2_settled 38 = .ok (.ireturn, 1) := by decide +kernel
theorem dX2_settled_39 : decode cX2_settled 39 = .ok (.iinc 1 1, 3) := by decide +kernel
theorem dX2_settled_42 : decode cX2_settled 42 = .ok (.goto (-28), 3) := by decide +kernel
theorem dX2_settled_45 : decode cX2_settled 45 = .ok (.iconst 1, 1) := by decide +kernel
theorem dX2_settled_46 : decode cX2_settled 46 = .ok (.ireturn, 1) := by decide +kernel
theorem dX2_isNode_0 : decode cX2_isNode 0 = .ok (.iload_n 0, 1) := by decide +kernel
theorem dX2_isNode_1 : decode cX2_isNode 1 = .ok (.ifCond .lt 13, 3) := by decide +kernel
theorem dX2_isNode_4 : decode cX2_isNode 4 = .ok (.iload_n 0, 1) := by decide +kernel
theorem dX2_isNode_5 : decode cX2_isNode 5 = .ok (.bipush 8, 2) := by decide +kernel
theorem dX2_isNode_7 : decode cX2_isNode 7 = .ok (.if_icmp .ge 7, 3) := by decide +kernel
theorem dX2_isNode_10 : decode cX2_isNode 10 = .ok (.iconst 1, 1) := by decide +kernel
theorem dX2_isNode_11 : decode cX2_isNode 11 = .ok (.goto 4, 3) := by decide +kernel
theorem dX2_isNode_14 : decode cX2_isNode 14 = .ok (.iconst 0, 1) := by decide +kernel
theorem dX2_isNode_15 : decode cX2_isNode 15 = .ok (.ireturn, 1) := by decide +kernel
theorem dX2_pair_0 : decode cX2_pair 0 = .ok (.iload_n 0, 1) := by decide +kernel
theorem dX2_pair_1 : decode cX2_pair 1 = .ok (.bipush 8, 2) := by decide +kernel
theorem dX2_pair_3 : decode cX2_pair 3 = .ok (.imul, 1) := by decide +kernel
theorem dX2_pair_4 : decode cX2_pair 4 = .ok (.iload_n 1, 1) := by decide +kernel
theorem dX2_pair_5 : decode cX2_pair 5 = .ok (.iadd, 1) := by decide +kernel
theorem dX2_pair_6 : decode cX2_pair 6 = .ok (.ireturn, 1) := by decide +kernel
theorem dX2_knownRow_0 : decode cX2_knownRow 0 = .ok (.iload_n 0, 1) := by decide +kernel
theorem dX2_knownRow_1 : decode cX2_knownRow 1 = .ok (.bipush 8, 2) := by decide +kernel
theorem dX2_knownRow_3 : decode cX2_knownRow 3 = .ok (.imul, 1) := by decide +kernel
theorem dX2_knownRow_4 : decode cX2_knownRow 4 = .ok (.iload_n 1, 1) := by decide +kernel
theorem dX2_knownRow_5 : decode cX2_knownRow 5 = .ok (.iadd, 1) := by decide +kernel
theorem dX2_knownRow_6 : decode cX2_knownRow 6 = .ok (.ireturn, 1) := by decide +kernel
theorem dX2_flightRow_0 : decode cX2_flightRow 0 = .ok (.iload_n 0, 1) := by decide +kernel
theorem dX2_flightRow_1 : decode cX2_flightRow 1 = .ok (.bipush 8, 2) := by decide +kernel
theorem dX2_flightRow_3 : decode cX2_flightRow 3 = .ok (.imul, 1) := by decide +kernel
theorem dX2_flightRow_4 : decode cX2_flightRow 4 = .ok (.iload_n 1, 1) := by decide +kernel
theorem dX2_flightRow_5 : decode cX2_flightRow 5 = .ok (.iadd, 1) := by decide +kernel
theorem dX2_flightRow_6 : decode cX2_flightRow 6 = .ok (.bipush 8, 2) := by decide +kernel
theorem dX2_flightRow_8 : decode cX2_flightRow 8 = .ok (.imul, 1) := by decide +kernel
theorem dX2_flightRow_9 : decode cX2_flightRow 9 = .ok (.iload_n 2, 1) := by decide +kernel
theorem dX2_flightRow_10 : decode cX2_flightRow 10 = .ok (.iadd, 1) := by decide +kernel
theorem dX2_flightRow_11 : decode cX2_flightRow 11 = .ok (.ireturn, 1) := by decide +kernel
theorem dX2_hasLink_0 : decode cX2_hasLink 0 = .ok (.iload_n 1, 1) := by decide +kernel
theorem dX2_hasLink_1 : decode cX2_hasLink 1 = .ok (.invokestatic 50, 3) := by decide +kernel
theorem dX2_hasLink_4 : decode cX2_hasLink 4 = .ok (.ifCond .eq 27, 3) := by decide +kernel
theorem dX2_hasLink_7 : decode cX2_hasLink 7 = .ok (.iload_n 2, 1) := by decide +kernel
theorem dX2_hasLink_8 : decode cX2_hasLink 8 = .ok (.invokestatic 50, 3) := by decide +kernel
theorem dX2_hasLink_11 : decode cX2_hasLink 11 = .ok (.ifCond .eq 20, 3) := by decide +kernel
theorem dX2_hasLink_14 : decode cX2_hasLink 14 = .ok (.aload_n 0, 1) := by decide +kernel
theorem dX2_hasLink_15 : decode cX2_hasLink 15 = .ok (.getfield 17, 3) := by decide +kernel
theorem dX2_hasLink_18 : decode cX2_hasLink 18 = .ok (.iload_n 1, 1) := by decide +kernel
theorem dX2_hasLink_19 : decode cX2_hasLink 19 = .ok (.iload_n 2, 1) := by decide +kernel
theorem dX2_hasLink_20 : decode cX2_hasLink 20 = .ok (.invokestatic 86, 3) := by decide +kernel
theorem dX2_hasLink_23 : decode cX2_hasLink 23 = .ok (.iaload, 1) := by decide +kernel
theorem dX2_hasLink_24 : decode cX2_hasLink 24 = .ok (.ifCond .le 7, 3) := by decide +kernel
theorem dX2_hasLink_27 : decode cX2_hasLink 27 = .ok (.iconst 1, 1) := by decide +kernel
theorem dX2_hasLink_28 : decode cX2_hasLink 28 = .ok (.goto 4, 3) := by decide +kernel
theorem dX2_hasLink_31 : decode cX2_hasLink 31 = .ok (.iconst 0, 1) := by decide +kernel
theorem dX2_hasLink_32 : decode cX2_hasLink 32 = .ok (.ireturn, 1) := by decide +kernel
theorem dX2_carries_0 : decode cX2_carries 0 = .ok (.aload_n 0, 1) := by decide +kernel
theorem dX2_carries_1 : decode cX2_carries 1 = .ok (.getfield 23, 3) := by decide +kernel
theorem dX2_carries_4 : decode cX2_carries 4 = .ok (.iload_n 1, 1) := by decide +kernel
theorem dX2_carries_5 : decode cX2_carries 5 = .ok (.iload_n 2, 1) := by decide +kernel
theorem dX2_carries_6 : decode cX2_carries 6 = .ok (.invokestatic 86, 3) := by decide +kernel
theorem dX2_carries_9 : decode cX2_carries 9 = .ok (.baload, 1) := by decide +kernel
theorem dX2_carries_10 : decode cX2_carries 10 = .ok (.ifCond .eq 25, 3) := by decide +kernel
theorem dX2_carries_13 : decode cX2_carries 13 = .ok (.aload_n 0, 1) := by decide +kernel
theorem dX2_carries_14 : decode cX2_carries 14 = .ok (.getfield 9, 3) := by decide +kernel
theorem dX2_carries_17 : decode cX2_carries 17 = .ok (.iload_n 1, 1) := by decide +kernel
theorem dX2_carries_18 : decode cX2_carries 18 = .ok (.baload, 1) := by decide +kernel
theorem dX2_carries_19 : decode cX2_carries 19 = .ok (.ifCond .eq 16, 3) := by decide +kernel
theorem dX2_carries_22 : decode cX2_carries 22 = .ok (.aload_n 0, 1) := by decide +kernel
theorem dX2_carries_23 : decode cX2_carries 23 = .ok (.getfield 9, 3) := by decide +kernel
theorem dX2_carries_26 : decode cX2_carries 26 = .ok (.iload_n 2, 1) := by decide +kernel
theorem dX2_carries_27 : decode cX2_carries 27 = .ok (.baload, 1) := by decide +kernel
theorem dX2_carries_28 : decode cX2_carries 28 = .ok (.ifCond .eq 7, 3) := by decide +kernel
theorem dX2_carries_31 : decode cX2_carries 31 = .ok (.iconst 1, 1) := by decide +kernel
theorem dX2_carries_32 : decode cX2_carries 32 = .ok (.goto 4, 3) := by decide +kernel
theorem dX2_carries_35 : decode cX2_carries 35 = .ok (.iconst 0, 1) := by decide +kernel
theorem dX2_carries_36 : decode cX2_carries 36 = .ok (.ireturn, 1) := by decide +kernel
theorem dX2_putLink_0 : decode cX2_putLink 0 = .ok (.aload_n 0, 1) := by decide +kernel
theorem dX2_putLink_1 : decode cX2_putLink 1 = .ok (.getfield 17, 3) := by decide +kernel
theorem dX2_putLink_4 : decode cX2_putLink 4 = .ok (.iload_n 1, 1) := by decide +kernel
theorem dX2_putLink_5 : decode cX2_putLink 5 = .ok (.iload_n 2, 1) := by decide +kernel
theorem dX2_putLink_6 : decode cX2_putLink 6 = .ok (.invokestatic 86, 3) := by decide +kernel
theorem dX2_putLink_9 : decode cX2_putLink 9 = .ok (.iload_n 3, 1) := by decide +kernel
theorem dX2_putLink_10 : decode cX2_putLink 10 = .ok (.iastore, 1) := by decide +kernel
theorem dX2_putLink_11 : decode cX2_putLink 11 = .ok (.aload_n 0, 1) := by decide +kernel
theorem dX2_putLink_12 : decode cX2_putLink 12 = .ok (.getfield 20, 3) := by decide +kernel
theorem dX2_putLink_15 : decode cX2_putLink 15 = .ok (.iload_n 1, 1) := by decide +kernel
theorem dX2_putLink_16 : decode cX2_putLink 16 = .ok (.iload_n 2, 1) := by decide +kernel
theorem dX2_putLink_17 : decode cX2_putLink 17 = .ok (.invokestatic 86, 3) := by decide +kernel
theorem dX2_putLink_20 : decode cX2_putLink 20 = .ok (.iload 4, 2) := by decide +kernel
theorem dX2_putLink_22 : decode cX2_putLink 22 = .ok (.iastore, 1) := by decide +kernel
theorem dX2_putLink_23 : decode cX2_putLink 23 = .ok (.return_, 1) := by decide +kernel
theorem dX2_bringUp_0 : decode cX2_bringUp 0 = .ok (.aload_n 0, 1) := by decide +kernel
theorem dX2_bringUp_1 : decode cX2_bringUp 1 = .ok (.getfield 23, 3) := by decide +kernel
theorem dX2_bringUp_4 : decode cX2_bringUp 4 = .ok (.iload_n 1, 1) := by decide +kernel
theorem dX2_bringUp_5 : decode cX2_bringUp 5 = .ok (.iload_n 2, 1) := by decide +kernel
theorem dX2_bringUp_6 : decode cX2_bringUp 6 = .ok (.invokestatic 86, 3) := by decide +kernel
theorem dX2_bringUp_9 : decode cX2_bringUp 9 = .ok (.iconst 1, 1) := by decide +kernel
theorem dX2_bringUp_10 : decode cX2_bringUp 10 = .ok (.bastore, 1) := by decide +kernel
theorem dX2_bringUp_11 : decode cX2_bringUp 11 = .ok (.aload_n 0, 1) := by decide +kernel
theorem dX2_bringUp_12 : decode cX2_bringUp 12 = .ok (.getfield 23, 3) := by decide +kernel
theorem dX2_bringUp_15 : decode cX2_bringUp 15 = .ok (.iload_n 2, 1) := by decide +kernel
theorem dX2_bringUp_16 : decode cX2_bringUp 16 = .ok (.iload_n 1, 1) := by decide +kernel
theorem dX2_bringUp_17 : decode cX2_bringUp 17 = .ok (.invokestatic 86, 3) := by decide +kernel
theorem dX2_bringUp_20 : decode cX2_bringUp 20 = .ok (.iconst 1, 1) := by decide +kernel
theorem dX2_bringUp_21 : decode cX2_bringUp 21 = .ok (.bastore, 1) := by decide +kernel
theorem dX2_bringUp_22 : decode cX2_bringUp 22 = .ok (.aload_n 0, 1) := by decide +kernel
theorem dX2_bringUp_23 : decode cX2_bringUp 23 = .ok (.iload_n 1, 1) := by decide +kernel
theorem dX2_bringUp_24 : decode cX2_bringUp 24 = .ok (.iload_n 2, 1) := by decide +kernel
theorem dX2_bringUp_25 : decode cX2_bringUp 25 = .ok (.invokevirtual 101, 3) := by decide +kernel
theorem dX2_bringUp_28 : decode cX2_bringUp 28 = .ok (.ifCond .ne 4, 3) := by decide +kernel
theorem dX2_bringUp_31 : decode cX2_bringUp 31 = .ok (.return_, 1) := by decide +kernel
theorem dX2_bringUp_32 : decode cX2_bringUp 32 = .ok (.iload_n 1, 1) := by decide +kernel
theorem dX2_bringUp_33 : decode cX2_bringUp 33 = .ok (.iload_n 2, 1) := by decide +kernel
theorem dX2_bringUp_34 : decode cX2_bringUp 34 = .ok (.invokestatic 183, 3) := by decide +kernel
theorem dX2_bringUp_37 : decode cX2_bringUp 37 = .ok (.istore_n 3, 1) := by decide +kernel
theorem dX2_bringUp_38 : decode cX2_bringUp 38 = .ok (.iload_n 1, 1) := by decide +kernel
theorem dX2_bringUp_39 : decode cX2_bringUp 39 = .ok (.iload_n 2, 1) := by decide +kernel
theorem dX2_bringUp_40 : decode cX2_bringUp 40 = .ok (.invokestatic 188, 3) := by decide +kernel
theorem dX2_bringUp_43 : decode cX2_bringUp 43 = .ok (.istore 4, 2) := by decide +kernel
theorem dX2_bringUp_45 : decode cX2_bringUp 45 = .ok (.aload_n 0, 1) := by decide +kernel
theorem dX2_bringUp_46 : decode cX2_bringUp 46 = .ok (.iload_n 3, 1) := by decide +kernel
theorem dX2_bringUp_47 : decode cX2_bringUp 47 = .ok (.invokevirtual 98, 3) := by decide +kernel
theorem dX2_bringUp_50 : decode cX2_bringUp 50 = .ok (.aload_n 0, 1) := by decide +kernel
theorem dX2_bringUp_51 : decode cX2_bringUp 51 = .ok (.iload 4, 2) := by decide +kernel
theorem dX2_bringUp_53 : decode cX2_bringUp 53 = .ok (.invokevirtual 98, 3) := by decide +kernel
theorem dX2_bringUp_56 : decode cX2_bringUp 56 = .ok (.aload_n 0, 1) := by decide +kernel
theorem dX2_bringUp_57 : decode cX2_bringUp 57 = .ok (.iload_n 3, 1) := by decide +kernel
theorem dX2_bringUp_58 : decode cX2_bringUp 58 = .ok (.iload 4, 2) := by decide +kernel
theorem dX2_bringUp_60 : decode cX2_bringUp 60 = .ok (.invokevirtual 104, 3) := by decide +kernel
theorem dX2_bringUp_63 : decode cX2_bringUp 63 = .ok (.aload_n 0, 1) := by decide +kernel
theorem dX2_bringUp_64 : decode cX2_bringUp 64 = .ok (.iload 4, 2) := by decide +kernel
theorem dX2_bringUp_66 : decode cX2_bringUp 66 = .ok (.iload_n 3, 1) := by decide +kernel
theorem dX2_bringUp_67 : decode cX2_bringUp 67 = .ok (.invokevirtual 104, 3) := by decide +kernel
theorem dX2_bringUp_70 : decode cX2_bringUp 70 = .ok (.return_, 1) := by decide +kernel
theorem dX2_takeDown_0 : decode cX2_takeDown 0 = .ok (.aload_n 0, 1) := by decide +kernel
theorem dX2_takeDown_1 : decode cX2_takeDown 1 = .ok (.iload_n 1, 1) := by decide +kernel
theorem dX2_takeDown_2 : decode cX2_takeDown 2 = .ok (.iload_n 2, 1) := by decide +kernel
theorem dX2_takeDown_3 : decode cX2_takeDown 3 = .ok (.invokevirtual 101, 3) := by decide +kernel
theorem dX2_takeDown_6 : decode cX2_takeDown 6 = .ok (.istore_n 3, 1) := by decide +kernel
theorem dX2_takeDown_7 : decode cX2_takeDown 7 = .ok (.aload_n 0, 1) := by decide +kernel
theorem dX2_takeDown_8 : decode cX2_takeDown 8 = .ok (.getfield 23, 3) := by decide +kernel
theorem dX2_takeDown_11 : decode cX2_takeDown 11 = .ok (.iload_n 1, 1) := by decide +kernel
theorem dX2_takeDown_12 : decode cX2_takeDown 12 = .ok (.iload_n 2, 1) := by decide +kernel
theorem dX2_takeDown_13 : decode cX2_takeDown 13 = .ok (.invokestatic 86, 3) := by decide +kernel
theorem dX2_takeDown_16 : decode cX2_takeDown 16 = .ok (.iconst 0, 1) := by decide +kernel
theorem dX2_takeDown_17 : decode cX2_takeDown 17 = .ok (.bastore, 1) := by decide +kernel
theorem dX2_takeDown_18 : decode cX2_takeDown 18 = .ok (.aload_n 0, 1) := by decide +kernel
theorem dX2_takeDown_19 : decode cX2_takeDown 19 = .ok (.getfield 23, 3) := by decide +kernel
theorem dX2_takeDown_22 : decode cX2_takeDown 22 = .ok (.iload_n 2, 1) := by decide +kernel
theorem dX2_takeDown_23 : decode cX2_takeDown 23 = .ok (.iload_n 1, 1) := by decide +kernel
theorem dX2_takeDown_24 : decode cX2_takeDown 24 = .ok (.invokestatic 86, 3) := by decide +kernel
theorem dX2_takeDown_27 : decode cX2_takeDown 27 = .ok (.iconst 0, 1) := by decide +kernel
theorem dX2_takeDown_28 : decode cX2_takeDown 28 = .ok (.bastore, 1) := by decide +kernel
theorem dX2_takeDown_29 : decode cX2_takeDown 29 = .ok (.iload_n 3, 1) := by decide +kernel
theorem dX2_takeDown_30 : decode cX2_takeDown 30 = .ok (.ifCond .ne 4, 3) := by decide +kernel
theorem dX2_takeDown_33 : decode cX2_takeDown 33 = .ok (.return_, 1) := by decide +kernel
theorem dX2_takeDown_34 : decode cX2_takeDown 34 = .ok (.aload_n 0, 1) := by decide +kernel
theorem dX2_takeDown_35 : decode cX2_takeDown 35 = .ok (.iload_n 1, 1) := by decide +kernel
theorem dX2_takeDown_36 : decode cX2_takeDown 36 = .ok (.iload_n 2, 1) := by decide +kernel
theorem dX2_takeDown_37 : decode cX2_takeDown 37 = .ok (.invokevirtual 113, 3) := by decide +kernel
theorem dX2_takeDown_40 : decode cX2_takeDown 40 = .ok (.aload_n 0, 1) := by decide +kernel
theorem dX2_takeDown_41 : decode cX2_takeDown 41 = .ok (.iload_n 1, 1) := by decide +kernel
theorem dX2_takeDown_42 : decode cX2_takeDown 42 = .ok (.iload_n 2, 1) := by decide +kernel
theorem dX2_takeDown_43 : decode cX2_takeDown 43 = .ok (.invokestatic 183, 3) := by decide +kernel
theorem dX2_takeDown_46 : decode cX2_takeDown 46 = .ok (.invokevirtual 98, 3) := by decide +kernel
theorem dX2_takeDown_49 : decode cX2_takeDown 49 = .ok (.aload_n 0, 1) := by decide +kernel
theorem dX2_takeDown_50 : decode cX2_takeDown 50 = .ok (.iload_n 1, 1) := by decide +kernel
theorem dX2_takeDown_51 : decode cX2_takeDown 51 = .ok (.iload_n 2, 1) := by decide +kernel
theorem dX2_takeDown_52 : decode cX2_takeDown 52 = .ok (.invokestatic 188, 3) := by decide +kernel
theorem dX2_takeDown_55 : decode cX2_takeDown 55 = .ok (.invokevirtual 98, 3) := by decide +kernel
theorem dX2_takeDown_58 : decode cX2_takeDown 58 = .ok (.return_, 1) := by decide +kernel
theorem dX2_emptyLink_0 : decode cX2_emptyLink 0 = .ok (.iconst 0, 1) := by decide +kernel
theorem dX2_emptyLink_1 : decode cX2_emptyLink 1 = .ok (.istore_n 3, 1) := by decide +kernel
theorem dX2_emptyLink_2 : decode cX2_emptyLink 2 = .ok (.iload_n 3, 1) := by decide +kernel
theorem dX2_emptyLink_3 : decode cX2_emptyLink 3 = .ok (.bipush 8, 2) := by decide +kernel
theorem dX2_emptyLink_5 : decode cX2_emptyLink 5 = .ok (.if_icmp .ge 35, 3) := by decide +kernel
theorem dX2_emptyLink_8 : decode cX2_emptyLink 8 = .ok (.aload_n 0, 1) := by decide +kernel
theorem dX2_emptyLink_9 : decode cX2_emptyLink 9 = .ok (.getfield 35, 3) := by decide +kernel
theorem dX2_emptyLink_12 : decode cX2_emptyLink 12 = .ok (.iload_n 1, 1) := by decide +kernel
theorem dX2_emptyLink_13 : decode cX2_emptyLink 13 = .ok (.iload_n 2, 1) := by decide +kernel
theorem dX2_emptyLink_14 : decode cX2_emptyLink 14 = .ok (.iload_n 3, 1) := by decide +kernel
theorem dX2_emptyLink_15 : decode cX2_emptyLink 15 = .ok (.invokestatic 191, 3) := by decide +kernel
theorem dX2_emptyLink_18 : decode cX2_emptyLink 18 = .ok (.invokevirtual 110, 3) := by decide +kernel
theorem dX2_emptyLink_21 : decode cX2_emptyLink 21 = .ok (.aload_n 0, 1) := by decide +kernel
theorem dX2_emptyLink_22 : decode cX2_emptyLink 22 = .ok (.getfield 35, 3) := by decide +kernel
theorem dX2_emptyLink_25 : decode cX2_emptyLink 25 = .ok (.iload_n 2, 1) := by decide +kernel
theorem dX2_emptyLink_26 : decode cX2_emptyLink 26 = .ok (.iload_n 1, 1) := by decide +kernel
theorem dX2_emptyLink_27 : decode cX2_emptyLink 27 = .ok (.iload_n 3, 1) := by decide +kernel
theorem dX2_emptyLink_28 : decode cX2_emptyLink 28 = .ok (.invokestatic 191, 3) := by decide +kernel
theorem dX2_emptyLink_31 : decode cX2_emptyLink 31 = .ok (.invokevirtual 110, 3) := by decide +kernel
theorem dX2_emptyLink_34 : decode cX2_emptyLink 34 = .ok (.iinc 3 1, 3) := by decide +kernel
theorem dX2_emptyLink_37 : decode cX2_emptyLink 37 = .ok (.goto (-35), 3) := by decide +kernel
theorem dX2_emptyLink_40 : decode cX2_emptyLink 40 = .ok (.aload_n 0, 1) := by decide +kernel
theorem dX2_emptyLink_41 : decode cX2_emptyLink 41 = .ok (.getfield 43, 3) := by decide +kernel
theorem dX2_emptyLink_44 : decode cX2_emptyLink 44 = .ok (.astore_n 3, 1) := by decide +kernel
theorem dX2_emptyLink_45 : decode cX2_emptyLink 45 = .ok (.aload_n 3, 1) := by decide +kernel
theorem dX2_emptyLink_46 : decode cX2_emptyLink 46 = .ok (.arraylength, 1) := by decide +kernel
theorem dX2_emptyLink_47 : decode cX2_emptyLink 47 = .ok (.istore 4, 2) := by decide +kernel
theorem dX2_emptyLink_49 : decode cX2_emptyLink 49 = .ok (.iconst 0, 1) := by decide +kernel
theorem dX2_emptyLink_50 : decode cX2_emptyLink 50 = .ok (.istore 5, 2) := by decide +kernel
theorem dX2_emptyLink_52 : decode cX2_emptyLink 52 = .ok (.iload 5, 2) := by decide +kernel
theorem dX2_emptyLink_54 : decode cX2_emptyLink 54 = .ok (.iload 4, 2) := by decide +kernel
theorem dX2_emptyLink_56 : decode cX2_emptyLink 56 = .ok (.if_icmp .ge 36, 3) := by decide +kernel
theorem dX2_emptyLink_59 : decode cX2_emptyLink 59 = .ok (.aload_n 3, 1) := by decide +kernel
theorem dX2_emptyLink_60 : decode cX2_emptyLink 60 = .ok (.iload 5, 2) := by decide +kernel
theorem dX2_emptyLink_62 : decode cX2_emptyLink 62 = .ok (.aaload, 1) := by decide +kernel
theorem dX2_emptyLink_63 : decode cX2_emptyLink 63 = .ok (.astore 6, 2) := by decide +kernel
theorem dX2_emptyLink_65 : decode cX2_emptyLink 65 = .ok (.aload 6, 2) := by decide +kernel
theorem dX2_emptyLink_67 : decode cX2_emptyLink 67 = .ok (.ifnull 19, 3) := by decide +kernel
theorem dX2_emptyLink_70 : decode cX2_emptyLink 70 = .ok (.aload 6, 2) := by decide +kernel
theorem dX2_emptyLink_72 : decode cX2_emptyLink 72 = .ok (.iload_n 1, 1) := by decide +kernel
theorem dX2_emptyLink_73 : decode cX2_emptyLink 73 = .ok (.iload_n 2, 1) := by decide +kernel
theorem dX2_emptyLink_74 : decode cX2_emptyLink 74 = .ok (.invokevirtual 195, 3) := by decide +kernel
theorem dX2_emptyLink_77 : decode cX2_emptyLink 77 = .ok (.ifCond .eq 9, 3) := by decide +kernel
theorem dX2_emptyLink_80 : decode cX2_emptyLink 80 = .ok (.aload 6, 2) := by decide +kernel
theorem dX2_emptyLink_82 : decode cX2_emptyLink 82 = .ok (.iconst 3, 1) := by decide +kernel
theorem dX2_emptyLink_83 : decode cX2_emptyLink 83 = .ok (.putfield 168, 3) := by decide +kernel
theorem dX2_emptyLink_86 : decode cX2_emptyLink 86 = .ok (.iinc 5 1, 3) := by decide +kernel
theorem dX2_emptyLink_89 : decode cX2_emptyLink 89 = .ok (.goto (-37), 3) := by decide +kernel
theorem dX2_emptyLink_92 : decode cX2_emptyLink 92 = .ok (.return_, 1) := by decide +kernel
theorem dX2_tellNeighbours_0 : decode cX2_tellNeighbours 0 = .ok (.iconst 0, 1) := by decide +kernel
theorem dX2_tellNeighbours_1 : decode cX2_tellNeighbours 1 = .ok (.istore_n 2, 1) := by decide +kernel
theorem dX2_tellNeighbours_2 : decode cX2_tellNeighbours 2 = .ok (.iload_n 2, 1) := by decide +kernel
theorem dX2_tellNeighbours_3 : decode cX2_tellNeighbours 3 = .ok (.bipush 8, 2) := by decide +kernel
theorem dX2_tellNeighbours_5 : decode cX2_tellNeighbours 5 = .ok (.if_icmp .ge 36, 3) := by decide +kernel
theorem dX2_tellNeighbours_8 : decode cX2_tellNeighbours 8 = .ok (.aload_n 0, 1) := by decide +kernel
theorem dX2_tellNeighbours_9 : decode cX2_tellNeighbours 9 = .ok (.getfield 23, 3) := by decide +kernel
theorem dX2_tellNeighbours_12 : decode cX2_tellNeighbours 12 = .ok (.iload_n 1, 1) := by decide +kernel
theorem dX2_tellNeighbours_13 : decode cX2_tellNeighbours 13 = .ok (.iload_n 2, 1) := by decide +kernel
theorem dX2_tellNeighbours_14 : decode cX2_tellNeighbours 14 = .ok (.invokestatic 86, 3) := by decide +kernel
theorem dX2_tellNeighbours_17 : decode cX2_tellNeighbours 17 = .ok (.baload, 1) := by decide +kernel
theorem dX2_tellNeighbours_18 : decode cX2_tellNeighbours 18 = .ok (.ifCond .eq 17, 3) := by decide +kernel
theorem dX2_tellNeighbours_21 : decode cX2_tellNeighbours 21 = .ok (.aload_n 0, 1) := by decide +kernel
theorem dX2_tellNeighbours_22 : decode cX2_tellNeighbours 22 = .ok (.getfield 9, 3) := by decide +kernel
theorem dX2_tellNeighbours_25 : decode cX2_tellNeighbours 25 = .ok (.iload_n 2, 1) := by decide +kernel
theorem dX2_tellNeighbours_26 : decode cX2_tellNeighbours 26 = .ok (.baload, 1) := by decide +kernel
theorem dX2_tellNeighbours_27 : decode cX2_tellNeighbours 27 = .ok (.ifCond .eq 8, 3) := by decide +kernel
theorem dX2_tellNeighbours_30 : decode cX2_tellNeighbours 30 = .ok (.aload_n 0, 1) := by decide +kernel
theorem dX2_tellNeighbours_31 : decode cX2_tellNeighbours 31 = .ok (.iload_n 2, 1) := by decide +kernel
theorem dX2_tellNeighbours_32 : decode cX2_tellNeighbours 32 = .ok (.invokevirtual 98, 3) := by decide +kernel
theorem dX2_tellNeighbours_35 : decode cX2_tellNeighbours 35 = .ok (.iinc 2 1, 3) := by decide +kernel
theorem dX2_tellNeighbours_38 : decode cX2_tellNeighbours 38 = .ok (.goto (-36), 3) := by decide +kernel
theorem dX2_tellNeighbours_41 : decode cX2_tellNeighbours 41 = .ok (.return_, 1) := by decide +kernel
theorem dX2_tell_0 : decode cX2_tell 0 = .ok (.aload_n 0, 1) := by decide +kernel
theorem dX2_tell_1 : decode cX2_tell 1 = .ok (.getfield 13, 3) := by decide +kernel
theorem dX2_tell_4 : decode cX2_tell 4 = .ok (.iload_n 1, 1) := by decide +kernel
theorem dX2_tell_5 : decode cX2_tell 5 = .ok (.dup2, 1) := by decide +kernel
theorem dX2_tell_6 : decode cX2_tell 6 = .ok (.iaload, 1) := by decide +kernel
theorem dX2_tell_7 : decode cX2_tell 7 = .ok (.iconst 1, 1) := by decide +kernel
theorem dX2_tell_8 : decode cX2_tell 8 = .ok (.iadd, 1) := by decide +kernel
theorem dX2_tell_9 : decode cX2_tell 9 = .ok (.iastore, 1) := by decide +kernel
theorem dX2_tell_10 : decode cX2_tell 10 = .ok (.aload_n 0, 1) := by decide +kernel
theorem dX2_tell_11 : decode cX2_tell 11 = .ok (.getfield 31, 3) := by decide +kernel
theorem dX2_tell_14 : decode cX2_tell 14 = .ok (.iload_n 1, 1) := by decide +kernel
theorem dX2_tell_15 : decode cX2_tell 15 = .ok (.iload_n 1, 1) := by decide +kernel
theorem dX2_tell_16 : decode cX2_tell 16 = .ok (.invokestatic 107, 3) := by decide +kernel
theorem dX2_tell_19 : decode cX2_tell 19 = .ok (.aload_n 0, 1) := by decide +kernel
theorem dX2_tell_20 : decode cX2_tell 20 = .ok (.getfield 13, 3) := by decide +kernel
theorem dX2_tell_23 : decode cX2_tell 23 = .ok (.iload_n 1, 1) := by decide +kernel
theorem dX2_tell_24 : decode cX2_tell 24 = .ok (.iaload, 1) := by decide +kernel
theorem dX2_tell_25 : decode cX2_tell 25 = .ok (.aload_n 0, 1) := by decide +kernel
theorem dX2_tell_26 : decode cX2_tell 26 = .ok (.getfield 118, 3) := by decide +kernel
theorem dX2_tell_29 : decode cX2_tell 29 = .ok (.aload_n 0, 1) := by decide +kernel
theorem dX2_tell_30 : decode cX2_tell 30 = .ok (.iload_n 1, 1) := by decide +kernel
theorem dX2_tell_31 : decode cX2_tell 31 = .ok (.invokevirtual 198, 3) := by decide +kernel
theorem dX2_tell_34 : decode cX2_tell 34 = .ok (.invokevirtual 202, 3) := by decide +kernel
theorem dX2_tell_37 : decode cX2_tell 37 = .ok (.aload_n 0, 1) := by decide +kernel
theorem dX2_tell_38 : decode cX2_tell 38 = .ok (.iload_n 1, 1) := by decide +kernel
theorem dX2_tell_39 : decode cX2_tell 39 = .ok (.iload_n 1, 1) := by decide +kernel
theorem dX2_tell_40 : decode cX2_tell 40 = .ok (.iconst (-1), 1) := by decide +kernel
theorem dX2_tell_41 : decode cX2_tell 41 = .ok (.invokevirtual 206, 3) := by decide +kernel
theorem dX2_tell_44 : decode cX2_tell 44 = .ok (.return_, 1) := by decide +kernel
theorem dX2_costsNow_0 : decode cX2_costsNow 0 = .ok (.lconst 0, 1) := by decide +kernel
theorem dX2_costsNow_1 : decode cX2_costsNow 1 = .ok (.lstore_n 2, 1) := by decide +kernel
theorem dX2_costsNow_2 : decode cX2_costsNow 2 = .ok (.iconst 0, 1) := by decide +kernel
theorem dX2_costsNow_3 : decode cX2_costsNow 3 = .ok (.istore 4, 2) := by decide +kernel
theorem dX2_costsNow_5 : decode cX2_costsNow 5 = .ok (.iload 4, 2) := by decide +kernel
theorem dX2_costsNow_7 : decode cX2_costsNow 7 = .ok (.bipush 8, 2) := by decide +kernel
theorem dX2_costsNow_9 : decode cX2_costsNow 9 = .ok (.if_icmp .ge 38, 3) := by decide +kernel
theorem dX2_costsNow_12 : decode cX2_costsNow 12 = .ok (.aload_n 0, 1) := by decide +kernel
theorem dX2_costsNow_13 : decode cX2_costsNow 13 = .ok (.iload_n 1, 1) := by decide +kernel
theorem dX2_costsNow_14 : decode cX2_costsNow 14 = .ok (.iload 4, 2) := by decide +kernel
theorem dX2_costsNow_16 : decode cX2_costsNow 16 = .ok (.invokevirtual 101, 3) := by decide +kernel
theorem dX2_costsNow_19 : decode cX2_costsNow 19 = .ok (.ifCond .eq 22, 3) := by decide +kernel
theorem dX2_costsNow_22 : decode cX2_costsNow 22 = .ok (.lload_n 2, 1) := by decide +kernel
theorem dX2_costsNow_23 : decode cX2_costsNow 23 = .ok (.aload_n 0, 1) := by decide +kernel
theorem dX2_costsNow_24 : decode cX2_costsNow 24 = .ok (.getfield 17, 3) := by decide +kernel
theorem dX2_costsNow_27 : decode cX2_costsNow 27 = .ok (.iload_n 1, 1) := by decide +kernel
theorem dX2_costsNow_28 : decode cX2_costsNow 28 = .ok (.iload 4, 2) := by decide +kernel
theorem dX2_costsNow_30 : decode cX2_costsNow 30 = .ok (.invokestatic 86, 3) := by decide +kernel
theorem dX2_costsNow_33 : decode cX2_costsNow 33 = .ok (.iaload, 1) := by decide +kernel
theorem dX2_costsNow_34 : decode cX2_costsNow 34 = .ok (.iload 4, 2) := by decide +kernel
theorem dX2_costsNow_36 : decode cX2_costsNow 36 = .ok (.invokestatic 210, 3) := by decide +kernel
theorem dX2_costsNow_39 : decode cX2_costsNow 39 = .ok (.lor, 1) := by decide +kernel
theorem dX2_costsNow_40 : decode cX2_costsNow 40 = .ok (.lstore_n 2, 1) := by decide +kernel
theorem dX2_costsNow_41 : decode cX2_costsNow 41 = .ok (.iinc 4 1, 3) := by decide +kernel
theorem dX2_costsNow_44 : decode cX2_costsNow 44 = .ok (.goto (-39), 3) := by decide +kernel
theorem dX2_costsNow_47 : decode cX2_costsNow 47 = .ok (.lload_n 2, 1) := by decide +kernel
theorem dX2_costsNow_48 : decode cX2_costsNow 48 = .ok (.lreturn, 1) := by decide +kernel
theorem dX2_spread_0 : decode cX2_spread 0 = .ok (.iconst 0, 1) := by decide +kernel
theorem dX2_spread_1 : decode cX2_spread 1 = .ok (.istore 4, 2) := by decide +kernel
theorem dX2_spread_3 : decode cX2_spread 3 = .ok (.iload 4, 2) := by decide +kernel
theorem dX2_spread_5 : decode cX2_spread 5 = .ok (.bipush 8, 2) := by decide +kernel
theorem dX2_spread_7 : decode cX2_spread 7 = .ok (.if_icmp .ge 33, 3) := by decide +kernel
theorem dX2_spread_10 : decode cX2_spread 10 = .ok (.iload 4, 2) := by decide +kernel
theorem dX2_spread_12 : decode cX2_spread 12 = .ok (.iload_n 3, 1) := by decide +kernel
theorem dX2_spread_13 : decode cX2_spread 13 = .ok (.if_icmp .eq 21, 3) := by decide +kernel
theorem dX2_spread_16 : decode cX2_spread 16 = .ok (.aload_n 0, 1) := by decide +kernel
theorem dX2_spread_17 : decode cX2_spread 17 = .ok (.iload_n 1, 1) := by decide +kernel
theorem dX2_spread_18 : decode cX2_spread 18 = .ok (.iload 4, 2) := by decide +kernel
theorem dX2_spread_20 : decode cX2_spread 20 = .ok (.invokevirtual 101, 3) := by decide +kernel
theorem dX2_spread_23 : decode cX2_spread 23 = .ok (.ifCond .eq 11, 3) := by decide +kernel
theorem dX2_spread_26 : decode cX2_spread 26 = .ok (.aload_n 0, 1) := by decide +kernel
theorem dX2_spread_27 : decode cX2_spread 27 = .ok (.iload_n 1, 1) := by decide +kernel
theorem dX2_spread_28 : decode cX2_spread 28 = .ok (.iload 4, 2) := by decide +kernel
theorem dX2_spread_30 : decode cX2_spread 30 = .ok (.iload_n 2, 1) := by decide +kernel
theorem dX2_spread_31 : decode cX2_spread 31 = .ok (.invokevirtual 214, 3) := by decide +kernel
theorem dX2_spread_34 : decode cX2_spread 34 = .ok (.iinc 4 1, 3) := by decide +kernel
theorem dX2_spread_37 : decode cX2_spread 37 = .ok (.goto (-34), 3) := by decide +kernel
theorem dX2_spread_40 : decode cX2_spread 40 = .ok (.return_, 1) := by decide +kernel
theorem dX2_sendAllKnown_0 : decode cX2_sendAllKnown 0 = .ok (.iconst 0, 1) := by decide +kernel
theorem dX2_sendAllKnown_1 : decode cX2_sendAllKnown 1 = .ok (.istore_n 3, 1) := by decide +kernel
theorem dX2_sendAllKnown_2 : decode cX2_sendAllKnown 2 = .ok (.iload_n 3, 1) := by decide +kernel
theorem dX2_sendAllKnown_3 : decode cX2_sendAllKnown 3 = .ok (.bipush 8, 2) := by decide +kernel
theorem dX2_sendAllKnown_5 : decode cX2_sendAllKnown 5 = .ok (.if_icmp .ge 16, 3) := by decide +kernel
theorem dX2_sendAllKnown_8 : decode cX2_sendAllKnown 8 = .ok (.aload_n 0, 1) := by decide +kernel
theorem dX2_sendAllKnown_9 : decode cX2_sendAllKnown 9 = .ok (.iload_n 1, 1) := by decide +kernel
theorem dX2_sendAllKnown_10 : decode cX2_sendAllKnown 10 = .ok (.iload_n 2, 1) := by decide +kernel
theorem dX2_sendAllKnown_11 : decode cX2_sendAllKnown 11 = .ok (.iload_n 3, 1) := by decide +kernel
theorem dX2_sendAllKnown_12 : decode cX2_sendAllKnown 12 = .ok (.invokevirtual 214, 3) := by decide +kernel
theorem dX2_sendAllKnown_15 : decode cX2_sendAllKnown 15 = .ok (.iinc 3 1, 3) := by decide +kernel
theorem dX2_sendAllKnown_18 : decode cX2_sendAllKnown 18 = .ok (.goto (-16), 3) := by decide +kernel
theorem dX2_sendAllKnown_21 : decode cX2_sendAllKnown 21 = .ok (.return_, 1) := by decide +kernel
theorem dX2_sendKnown_0 : decode cX2_sendKnown 0 = .ok (.iload_n 1, 1) := by decide +kernel
theorem dX2_sendKnown_1 : decode cX2_sendKnown 1 = .ok (.iload_n 3, 1) := by decide +kernel
theorem dX2_sendKnown_2 : decode cX2_sendKnown 2 = .ok (.invokestatic 107, 3) := by decide +kernel
theorem dX2_sendKnown_5 : decode cX2_sendKnown 5 = .ok (.istore 4, 2) := by decide +kernel
theorem dX2_sendKnown_7 : decode cX2_sendKnown 7 = .ok (.iload_n 1, 1) := by decide +kernel
theorem dX2_sendKnown_8 : decode cX2_sendKnown 8 = .ok (.iload_n 2, 1) := by decide +kernel
theorem dX2_sendKnown_9 : decode cX2_sendKnown 9 = .ok (.iload_n 3, 1) := by decide +kernel
theorem dX2_sendKnown_10 : decode cX2_sendKnown 10 = .ok (.invokestatic 191, 3) := by decide +kernel
theorem dX2_sendKnown_13 : decode cX2_sendKnown 13 = .ok (.istore 5, 2) := by decide +kernel
theorem dX2_sendKnown_15 : decode cX2_sendKnown 15 = .ok (.aload_n 0, 1) := by decide +kernel
theorem dX2_sendKnown_16 : decode cX2_sendKnown 16 = .ok (.getfield 31, 3) := by decide +kernel
theorem dX2_sendKnown_19 : decode cX2_sendKnown 19 = .ok (.getfield 133, 3) := by decide +kernel
theorem dX2_sendKnown_22 : decode cX2_sendKnown 22 = .ok (.iload 4, 2) := by decide +kernel
theorem dX2_sendKnown_24 : decode cX2_sendKnown 24 = .ok (.iaload, 1) := by decide +kernel
theorem dX2_sendKnown_25 : decode cX2_sendKnown 25 = .ok (.aload_n 0, 1) := by decide +kernel
theorem dX2_sendKnown_26 : decode cX2_sendKnown 26 = .ok (.getfield 35, 3) := by decide +kernel
theorem dX2_sendKnown_29 : decode cX2_sendKnown 29 = .ok (.getfield 133, 3) := by decide +kernel
theorem dX2_sendKnown_32 : decode cX2_sendKnown 32 = .ok (.iload 5, 2) := by decide +kernel
theorem dX2_sendKnown_34 : decode cX2_sendKnown 34 = .ok (.iaload, 1) := by decide +kernel
theorem dX2_sendKnown_35 : decode cX2_sendKnown 35 = .ok (.if_icmp .le 64, 3) := by decide +kernel
theorem dX2_sendKnown_38 : decode cX2_sendKnown 38 = .ok (.aload_n 0, 1) := by decide +kernel
theorem dX2_sendKnown_39 : decode cX2_sendKnown 39 = .ok (.getfield 35, 3) := by decide +kernel
theorem dX2_sendKnown_42 : decode cX2_sendKnown 42 = .ok (.iload 5, 2) := by decide +kernel
theorem dX2_sendKnown_44 : decode cX2_sendKnown 44 = .ok (.aload_n 0, 1) := by decide +kernel
theorem dX2_sendKnown_45 : decode cX2_sendKnown 45 = .ok (.getfield 31, 3) := by decide +kernel
theorem dX2_sendKnown_48 : decode cX2_sendKnown 48 = .ok (.getfield 133, 3) := by decide +kernel
theorem dX2_sendKnown_51 : decode cX2_sendKnown 51 = .ok (.iload 4, 2) := by decide +kernel
theorem dX2_sendKnown_53 : decode cX2_sendKnown 53 = .ok (.iaload, 1) := by decide +kernel
theorem dX2_sendKnown_54 : decode cX2_sendKnown 54 = .ok (.aload_n 0, 1) := by decide +kernel
theorem dX2_sendKnown_55 : decode cX2_sendKnown 55 = .ok (.getfield 31, 3) := by decide +kernel
theorem dX2_sendKnown_58 : decode cX2_sendKnown 58 = .ok (.getfield 136, 3) := by decide +kernel
theorem dX2_sendKnown_61 : decode cX2_sendKnown 61 = .ok (.iload 4, 2) := by decide +kernel
theorem dX2_sendKnown_63 : decode cX2_sendKnown 63 = .ok (.iaload, 1) := by decide +kernel
theorem dX2_sendKnown_64 : decode cX2_sendKnown 64 = .ok (.aload_n 0, 1) := by decide +kernel
theorem dX2_sendKnown_65 : decode cX2_sendKnown 65 = .ok (.getfield 31, 3) := by decide +kernel
theorem dX2_sendKnown_68 : decode cX2_sendKnown 68 = .ok (.getfield 217, 3) := by decide +kernel
theorem dX2_sendKnown_71 : decode cX2_sendKnown 71 = .ok (.iload 4, 2) := by decide +kernel
theorem dX2_sendKnown_73 : decode cX2_sendKnown 73 = .ok (.laload, 1) := by decide +kernel
theorem dX2_sendKnown_74 : decode cX2_sendKnown 74 = .ok (.invokevirtual 202, 3) := by decide +kernel
theorem dX2_sendKnown_77 : decode cX2_sendKnown 77 = .ok (.aload_n 0, 1) := by decide +kernel
theorem dX2_sendKnown_78 : decode cX2_sendKnown 78 = .ok (.getfield 38, 3) := by decide +kernel
theorem dX2_sendKnown_81 : decode cX2_sendKnown 81 = .ok (.iload 5, 2) := by decide +kernel
theorem dX2_sendKnown_83 : decode cX2_sendKnown 83 = .ok (.aload_n 0, 1) := by decide +kernel
theorem dX2_sendKnown_84 : decode cX2_sendKnown 84 = .ok (.getfield 118, 3) := by decide +kernel
theorem dX2_sendKnown_87 : decode cX2_sendKnown 87 = .ok (.aload_n 0, 1) := by decide +kernel
theorem dX2_sendKnown_88 : decode cX2_sendKnown 88 = .ok (.getfield 20, 3) := by decide +kernel
theorem dX2_sendKnown_91 : decode cX2_sendKnown 91 = .ok (.iload_n 1, 1) := by decide +kernel
theorem dX2_sendKnown_92 : decode cX2_sendKnown 92 = .ok (.iload_n 2, 1) := by decide +kernel
theorem dX2_sendKnown_93 : decode cX2_sendKnown 93 = .ok (.invokestatic 86, 3) := by decide +kernel
theorem dX2_sendKnown_96 : decode cX2_sendKnown 96 = .ok (.iaload, 1) := by decide +kernel
theorem dX2_sendKnown_97 : decode cX2_sendKnown 97 = .ok (.iadd, 1) := by decide +kernel
theorem dX2_sendKnown_98 : decode cX2_sendKnown 98 = .ok (.iastore, 1) := by decide +kernel
theorem dX2_sendKnown_99 : decode cX2_sendKnown 99 = .ok (.return_, 1) := by decide +kernel
theorem dX2_tellAgain_0 : decode cX2_tellAgain 0 = .ok (.iconst 0, 1) := by decide +kernel
theorem dX2_tellAgain_1 : decode cX2_tellAgain 1 = .ok (.istore_n 1, 1) := by decide +kernel
theorem dX2_tellAgain_2 : decode cX2_tellAgain 2 = .ok (.iload_n 1, 1) := by decide +kernel
theorem dX2_tellAgain_3 : decode cX2_tellAgain 3 = .ok (.bipush 8, 2) := by decide +kernel
theorem dX2_tellAgain_5 : decode cX2_tellAgain 5 = .ok (.if_icmp .ge 51, 3) := by decide +kernel
theorem dX2_tellAgain_8 : decode cX2_tellAgain 8 = .ok (.iload_n 1, 1) := by decide +kernel
theorem dX2_tellAgain_9 : decode cX2_tellAgain 9 = .ok (.iload_n 1, 1) := by decide +kernel
theorem dX2_tellAgain_10 : decode cX2_tellAgain 10 = .ok (.invokestatic 107, 3) := by decide +kernel
theorem dX2_tellAgain_13 : decode cX2_tellAgain 13 = .ok (.istore_n 2, 1) := by decide +kernel
theorem dX2_tellAgain_14 : decode cX2_tellAgain 14 = .ok (.aload_n 0, 1) := by decide +kernel
theorem dX2_tellAgain_15 : decode cX2_tellAgain 15 = .ok (.getfield 31, 3) := by decide +kernel
theorem dX2_tellAgain_18 : decode cX2_tellAgain 18 = .ok (.getfield 133, 3) := by decide +kernel
theorem dX2_tellAgain_21 : decode cX2_tellAgain 21 = .ok (.iload_n 2, 1) := by decide +kernel
theorem dX2_tellAgain_22 : decode cX2_tellAgain 22 = .ok (.iaload, 1) := by decide +kernel
theorem dX2_tellAgain_23 : decode cX2_tellAgain 23 = .ok (.ifCond .le 27, 3) := by decide +kernel
theorem dX2_tellAgain_26 : decode cX2_tellAgain 26 = .ok (.aload_n 0, 1) := by decide +kernel
theorem dX2_tellAgain_27 : decode cX2_tellAgain 27 = .ok (.getfield 118, 3) := by decide +kernel
theorem dX2_tellAgain_30 : decode cX2_tellAgain 30 = .ok (.aload_n 0, 1) := by decide +kernel
theorem dX2_tellAgain_31 : decode cX2_tellAgain 31 = .ok (.getfield 31, 3) := by decide +kernel
theorem dX2_tellAgain_34 : decode cX2_tellAgain 34 = .ok (.getfield 136, 3) := by decide +kernel
theorem dX2_tellAgain_37 : decode cX2_tellAgain 37 = .ok (.iload_n 2, 1) := by decide +kernel
theorem dX2_tellAgain_38 : decode cX2_tellAgain 38 = .ok (.iaload, 1) := by decide +kernel
theorem dX2_tellAgain_39 : decode cX2_tellAgain 39 = .ok (.isub, 1) := by decide +kernel
theorem dX2_tellAgain_40 : decode cX2_tellAgain 40 = .ok (.bipush 40, 2) := by decide +kernel
theorem dX2_tellAgain_42 : decode cX2_tellAgain 42 = .ok (.if_icmp .ne 8, 3) := by decide +kernel
theorem dX2_tellAgain_45 : decode cX2_tellAgain 45 = .ok (.aload_n 0, 1) := by decide +kernel
theorem dX2_tellAgain_46 : decode cX2_tellAgain 46 = .ok (.iload_n 1, 1) := by decide +kernel
theorem dX2_tellAgain_47 : decode cX2_tellAgain 47 = .ok (.invokevirtual 98, 3) := by decide +kernel
theorem dX2_tellAgain_50 : decode cX2_tellAgain 50 = .ok (.iinc 1 1, 3) := by decide +kernel
theorem dX2_tellAgain_53 : decode cX2_tellAgain 53 = .ok (.goto (-51), 3) := by decide +kernel
theorem dX2_tellAgain_56 : decode cX2_tellAgain 56 = .ok (.return_, 1) := by decide +kernel
theorem dX2_receiveArrivedNews_0 : decode cX2_receiveArrivedNews 0 = .ok (.aload_n 0, 1) := by decide +kernel
theorem dX2_receiveArrivedNews_1 : decode cX2_receiveArrivedNews 1 = .ok (.getfield 35, 3) := by decide +kernel
theorem dX2_receiveArrivedNews_4 : decode cX2_receiveArrivedNews 4 = .ok (.getfield 146, 3) := by decide +kernel
theorem dX2_receiveArrivedNews_7 : decode cX2_receiveArrivedNews 7 = .ok (.ifCond .ne 4, 3) := by decide +kernel
theorem dX2_receiveArrivedNews_10 : decode cX2_receiveArrivedNews 10 = .ok (.return_, 1) := by decide +kernel
theorem dX2_receiveArrivedNews_11 : decode cX2_receiveArrivedNews 11 = .ok (.iconst 0, 1) := by decide +kernel
theorem dX2_receiveArrivedNews_12 : decode cX2_receiveArrivedNews 12 = .ok (.istore_n 1, 1) := by decide +kernel
theorem dX2_receiveArrivedNews_13 : decode cX2_receiveArrivedNews 13 = .ok (.iload_n 1, 1) := by decide +kernel
theorem dX2_receiveArrivedNews_14 : decode cX2_receiveArrivedNews 14 = .ok (.sipush 512, 3) := by decide +kernel
theorem dX2_receiveArrivedNews_17 : decode cX2_receiveArrivedNews 17 = .ok (.if_icmp .ge 39, 3) := by decide +kernel
theorem dX2_receiveArrivedNews_20 : decode cX2_receiveArrivedNews 20 = .ok (.aload_n 0, 1) := by decide +kernel
theorem dX2_receiveArrivedNews_21 : decode cX2_receiveArrivedNews 21 = .ok (.getfield 35, 3) := by decide +kernel
theorem dX2_receiveArrivedNews_24 : decode cX2_receiveArrivedNews 24 = .ok (.getfield 133, 3) := by decide +kernel
theorem dX2_receiveArrivedNews_27 : decode cX2_receiveArrivedNews 27 = .ok (.iload_n 1, 1) := by decide +kernel
theorem dX2_receiveArrivedNews_28 : decode cX2_receiveArrivedNews 28 = .ok (.iaload, 1) := by decide +kernel
theorem dX2_receiveArrivedNews_29 : decode cX2_receiveArrivedNews 29 = .ok (.ifCond .le 21, 3) := by decide +kernel
theorem dX2_receiveArrivedNews_32 : decode cX2_receiveArrivedNews 32 = .ok (.aload_n 0, 1) := by decide +kernel
theorem dX2_receiveArrivedNews_33 : decode cX2_receiveArrivedNews 33 = .ok (.getfield 38, 3) := by decide +kernel
theorem dX2_receiveArrivedNews_36 : decode cX2_receiveArrivedNews 36 = .ok (.iload_n 1, 1) := by decide +kernel
theorem dX2_receiveArrivedNews_37 : decode cX2_receiveArrivedNews 37 = .ok (.iaload, 1) := by decide +kernel
theorem dX2_receiveArrivedNews_38 : decode cX2_receiveArrivedNews 38 = .ok (.aload_n 0, 1) := by decide +kernel
theorem dX2_receiveArrivedNews_39 : decode cX2_receiveArrivedNews 39 = .ok (.getfield 118, 3) := by decide +kernel
theorem dX2_receiveArrivedNews_42 : decode cX2_receiveArrivedNews 42 = .ok (.if_icmp .ne 8, 3) := by decide +kernel
theorem dX2_receiveArrivedNews_45 : decode cX2_receiveArrivedNews 45 = .ok (.aload_n 0, 1) := by decide +kernel
theorem dX2_receiveArrivedNews_46 : decode cX2_receiveArrivedNews 46 = .ok (.iload_n 1, 1) := by decide +kernel
theorem dX2_receiveArrivedNews_47 : decode cX2_receiveArrivedNews 47 = .ok (.invokevirtual 221, 3) := by decide +kernel
theorem dX2_receiveArrivedNews_50 : decode cX2_receiveArrivedNews 50 = .ok (.iinc 1 1, 3) := by decide +kernel
theorem dX2_receiveArrivedNews_53 : decode cX2_receiveArrivedNews 53 = .ok (.goto (-40), 3) := by decide +kernel
theorem dX2_receiveArrivedNews_56 : decode cX2_receiveArrivedNews 56 = .ok (.return_, 1) := by decide +kernel
theorem dX2_receive_0 : decode cX2_receive 0 = .ok (.iload_n 1, 1) := by decide +kernel
theorem dX2_receive_1 : decode cX2_receive 1 = .ok (.bipush 64, 2) := by decide +kernel
theorem dX2_receive_3 : decode cX2_receive 3 = .ok (.idiv, 1) := by decide +kernel
theorem dX2_receive_4 : decode cX2_receive 4 = .ok (.istore_n 2, 1) := by decide +kernel
theorem dX2_receive_5 : decode cX2_receive 5 = .ok (.iload_n 1, 1) := by decide +kernel
theorem dX2_receive_6 : decode cX2_receive 6 = .ok (.bipush 8, 2) := by decide +kernel
theorem dX2_receive_8 : decode cX2_receive 8 = .ok (.idiv, 1) := by decide +kernel
theorem dX2_receive_9 : decode cX2_receive 9 = .ok (.bipush 8, 2) := by decide +kernel
theorem dX2_receive_11 : decode cX2_receive 11 = .ok (.irem, 1) := by decide +kernel
theorem dX2_receive_12 : decode cX2_receive 12 = .ok (.istore_n 3, 1) := by decide +kernel
theorem dX2_receive_13 : decode cX2_receive 13 = .ok (.iload_n 1, 1) := by decide +kernel
theorem dX2_receive_14 : decode cX2_receive 14 = .ok (.bipush 8, 2) := by decide +kernel
theorem dX2_receive_16 : decode cX2_receive 16 = .ok (.irem, 1) := by decide +kernel
theorem dX2_receive_17 : decode cX2_receive 17 = .ok (.istore 4, 2) := by decide +kernel
theorem dX2_receive_19 : decode cX2_receive 19 = .ok (.aload_n 0, 1) := by decide +kernel
theorem dX2_receive_20 : decode cX2_receive 20 = .ok (.getfield 35, 3) := by decide +kernel
theorem dX2_receive_23 : decode cX2_receive 23 = .ok (.getfield 133, 3) := by decide +kernel
theorem dX2_receive_26 : decode cX2_receive 26 = .ok (.iload_n 1, 1) := by decide +kernel
theorem dX2_receive_27 : decode cX2_receive 27 = .ok (.iaload, 1) := by decide +kernel
theorem dX2_receive_28 : decode cX2_receive 28 = .ok (.istore 5, 2) := by decide +kernel
theorem dX2_receive_30 : decode cX2_receive 30 = .ok (.aload_n 0, 1) := by decide +kernel
theorem dX2_receive_31 : decode cX2_receive 31 = .ok (.getfield 31, 3) := by decide +kernel
theorem dX2_receive_34 : decode cX2_receive 34 = .ok (.getfield 133, 3) := by decide +kernel
theorem dX2_receive_37 : decode cX2_receive 37 = .ok (.iload_n 3, 1) := by decide +kernel
theorem dX2_receive_38 : decode cX2_receive 38 = .ok (.iload 4, 2) := by decide +kernel
theorem dX2_receive_40 : decode cX2_receive 40 = .ok (.invokestatic 107, 3) := by decide +kernel
theorem dX2_receive_43 : decode cX2_receive 43 = .ok (.iaload, 1) := by decide +kernel
theorem dX2_receive_44 : decode cX2_receive 44 = .ok (.istore 6, 2) := by decide +kernel
theorem dX2_receive_46 : decode cX2_receive 46 = .ok (.iload 4, 2) := by decide +kernel
theorem dX2_receive_48 : decode cX2_receive 48 = .ok (.iload_n 3, 1) := by decide +kernel
theorem dX2_receive_49 : decode cX2_receive 49 = .ok (.if_icmp .ne 30, 3) := by decide +kernel
theorem dX2_receive_52 : decode cX2_receive 52 = .ok (.iload 5, 2) := by decide +kernel
theorem dX2_receive_54 : decode cX2_receive 54 = .ok (.aload_n 0, 1) := by decide +kernel
theorem dX2_receive_55 : decode cX2_receive 55 = .ok (.getfield 13, 3) := by decide +kernel
theorem dX2_receive_58 : decode cX2_receive 58 = .ok (.iload_n 3, 1) := by decide +kernel
theorem dX2_receive_59 : decode cX2_receive 59 = .ok (.iaload, 1) := by decide +kernel
theorem dX2_receive_60 : decode cX2_receive 60 = .ok (.if_icmp .le 85, 3) := by decide +kernel
theorem dX2_receive_63 : decode cX2_receive 63 = .ok (.aload_n 0, 1) := by decide +kernel
theorem dX2_receive_64 : decode cX2_receive 64 = .ok (.getfield 13, 3) := by decide +kernel
theorem dX2_receive_67 : decode cX2_receive 67 = .ok (.iload_n 3, 1) := by decide +kernel
theorem dX2_receive_68 : decode cX2_receive 68 = .ok (.iload 5, 2) := by decide +kernel
theorem dX2_receive_70 : decode cX2_receive 70 = .ok (.iastore, 1) := by decide +kernel
theorem dX2_receive_71 : decode cX2_receive 71 = .ok (.aload_n 0, 1) := by decide +kernel
theorem dX2_receive_72 : decode cX2_receive 72 = .ok (.iload_n 3, 1) := by decide +kernel
theorem dX2_receive_73 : decode cX2_receive 73 = .ok (.invokevirtual 98, 3) := by decide +kernel
theorem dX2_receive_76 : decode cX2_receive 76 = .ok (.goto 69, 3) := by decide +kernel
theorem dX2_receive_79 : decode cX2_receive 79 = .ok (.iload 5, 2) := by decide +kernel
theorem dX2_receive_81 : decode cX2_receive 81 = .ok (.iload 6, 2) := by decide +kernel
theorem dX2_receive_83 : decode cX2_receive 83 = .ok (.if_icmp .le 47, 3) := by decide +kernel
theorem dX2_receive_86 : decode cX2_receive 86 = .ok (.aload_n 0, 1) := by decide +kernel
theorem dX2_receive_87 : decode cX2_receive 87 = .ok (.getfield 31, 3) := by decide +kernel
theorem dX2_receive_90 : decode cX2_receive 90 = .ok (.iload_n 3, 1) := by decide +kernel
theorem dX2_receive_91 : decode cX2_receive 91 = .ok (.iload 4, 2) := by decide +kernel
theorem dX2_receive_93 : decode cX2_receive 93 = .ok (.invokestatic 107, 3) := by decide +kernel
theorem dX2_receive_96 : decode cX2_receive 96 = .ok (.iload 5, 2) := by decide +kernel
theorem dX2_receive_98 : decode cX2_receive 98 = .ok (.aload_n 0, 1) := by decide +kernel
theorem dX2_receive_99 : decode cX2_receive 99 = .ok (.getfield 35, 3) := by decide +kernel
theorem dX2_receive_102 : decode cX2_receive 102 = .ok (.getfield 136, 3) := by decide +kernel
theorem dX2_receive_105 : decode cX2_receive 105 = .ok (.iload_n 1, 1) := by decide +kernel
theorem dX2_receive_106 : decode cX2_receive 106 = .ok (.iaload, 1) := by decide +kernel
theorem dX2_receive_107 : decode cX2_receive 107 = .ok (.aload_n 0, 1) := by decide +kernel
theorem dX2_receive_108 : decode cX2_receive 108 = .ok (.getfield 35, 3) := by decide +kernel
theorem dX2_receive_111 : decode cX2_receive 111 = .ok (.getfield 217, 3) := by decide +kernel
theorem dX2_receive_114 : decode cX2_receive 114 = .ok (.iload_n 1, 1) := by decide +kernel
theorem dX2_receive_115 : decode cX2_receive 115 = .ok (.laload, 1) := by decide +kernel
theorem dX2_receive_116 : decode cX2_receive 116 = .ok (.invokevirtual 202, 3) := by decide +kernel
theorem dX2_receive_119 : decode cX2_receive 119 = .ok (.aload_n 0, 1) := by decide +kernel
theorem dX2_receive_120 : decode cX2_receive 120 = .ok (.iload_n 3, 1) := by decide +kernel
theorem dX2_receive_121 : decode cX2_receive 121 = .ok (.iload 4, 2) := by decide +kernel
theorem dX2_receive_123 : decode cX2_receive 123 = .ok (.iload_n 2, 1) := by decide +kernel
theorem dX2_receive_124 : decode cX2_receive 124 = .ok (.invokevirtual 206, 3) := by decide +kernel
theorem dX2_receive_127 : decode cX2_receive 127 = .ok (.goto 18, 3) := by decide +kernel
theorem dX2_receive_130 : decode cX2_receive 130 = .ok (.iload 5, 2) := by decide +kernel
theorem dX2_receive_132 : decode cX2_receive 132 = .ok (.iload 6, 2) := by decide +kernel
theorem dX2_receive_134 : decode cX2_receive 134 = .ok (.if_icmp .ge 11, 3) := by decide +kernel
theorem dX2_receive_137 : decode cX2_receive 137 = .ok (.aload_n 0, 1) := by decide +kernel
theorem dX2_receive_138 : decode cX2_receive 138 = .ok (.iload_n 3, 1) := by decide +kernel
theorem dX2_receive_139 : decode cX2_receive 139 = .ok (.iload_n 2, 1) := by decide +kernel
theorem dX2_receive_140 : decode cX2_receive 140 = .ok (.iload 4, 2) := by decide +kernel
theorem dX2_receive_142 : decode cX2_receive 142 = .ok (.invokevirtual 214, 3) := by decide +kernel
theorem dX2_receive_145 : decode cX2_receive 145 = .ok (.aload_n 0, 1) := by decide +kernel
theorem dX2_receive_146 : decode cX2_receive 146 = .ok (.getfield 35, 3) := by decide +kernel
theorem dX2_receive_149 : decode cX2_receive 149 = .ok (.iload_n 1, 1) := by decide +kernel
theorem dX2_receive_150 : decode cX2_receive 150 = .ok (.invokevirtual 110, 3) := by decide +kernel
theorem dX2_receive_153 : decode cX2_receive 153 = .ok (.return_, 1) := by decide +kernel
theorem dX2_movePackets_0 : decode cX2_movePackets 0 = .ok (.aload_n 0, 1) := by decide +kernel
theorem dX2_movePackets_1 : decode cX2_movePackets 1 = .ok (.getfield 43, 3) := by decide +kernel
theorem dX2_movePackets_4 : decode cX2_movePackets 4 = .ok (.astore_n 1, 1) := by decide +kernel
theorem dX2_movePackets_5 : decode cX2_movePackets 5 = .ok (.aload_n 1, 1) := by decide +kernel
theorem dX2_movePackets_6 : decode cX2_movePackets 6 = .ok (.arraylength, 1) := by decide +kernel
theorem dX2_movePackets_7 : decode cX2_movePackets 7 = .ok (.istore_n 2, 1) := by decide +kernel
theorem dX2_movePackets_8 : decode cX2_movePackets 8 = .ok (.iconst 0, 1) := by decide +kernel
theorem dX2_movePackets_9 : decode cX2_movePackets 9 = .ok (.istore_n 3, 1) := by decide +kernel
theorem dX2_movePackets_10 : decode cX2_movePackets 10 = .ok (.iload_n 3, 1) := by decide +kernel
theorem dX2_movePackets_11 : decode cX2_movePackets 11 = .ok (.iload_n 2, 1) := by decide +kernel
theorem dX2_movePackets_12 : decode cX2_movePackets 12 = .ok (.if_icmp .ge 50, 3) := by decide +kernel
theorem dX2_movePackets_15 : decode cX2_movePackets 15 = .ok (.aload_n 1, 1) := by decide +kernel
theorem dX2_movePackets_16 : decode cX2_movePackets 16 = .ok (.iload_n 3, 1) := by decide +kernel
theorem dX2_movePackets_17 : decode cX2_movePackets 17 = .ok (.aaload, 1) := by decide +kernel
theorem dX2_movePackets_18 : decode cX2_movePackets 18 = .ok (.astore 4, 2) := by decide +kernel
theorem dX2_movePackets_20 : decode cX2_movePackets 20 = .ok (.aload 4, 2) := by decide +kernel
theorem dX2_movePackets_22 : decode cX2_movePackets 22 = .ok (.ifnull 34, 3) := by decide +kernel
theorem dX2_movePackets_25 : decode cX2_movePackets 25 = .ok (.aload 4, 2) := by decide +kernel
theorem dX2_movePackets_27 : decode cX2_movePackets 27 = .ok (.getfield 168, 3) := by decide +kernel
theorem dX2_movePackets_30 : decode cX2_movePackets 30 = .ok (.ifCond .ne 26, 3) := by decide +kernel
theorem dX2_movePackets_33 : decode cX2_movePackets 33 = .ok (.aload 4, 2) := by decide +kernel
theorem dX2_movePackets_35 : decode cX2_movePackets 35 = .ok (.getfield 224, 3) := by decide +kernel
theorem dX2_movePackets_38 : decode cX2_movePackets 38 = .ok (.aload_n 0, 1) := by decide +kernel
theorem dX2_movePackets_39 : decode cX2_movePackets 39 = .ok (.getfield 118, 3) := by decide +kernel
theorem dX2_movePackets_42 : decode cX2_movePackets 42 = .ok (.if_icmp .ne 14, 3) := by decide +kernel
theorem dX2_movePackets_45 : decode cX2_movePackets 45 = .ok (.aload_n 0, 1) := by decide +kernel
theorem dX2_movePackets_46 : decode cX2_movePackets 46 = .ok (.aload 4, 2) := by decide +kernel
theorem dX2_movePackets_48 : decode cX2_movePackets 48 = .ok (.aload 4, 2) := by decide +kernel
theorem dX2_movePackets_50 : decode cX2_movePackets 50 = .ok (.getfield 227, 3) := by decide +kernel
theorem dX2_movePackets_53 : decode cX2_movePackets 53 = .ok (.invokevirtual 164, 3) := by decide +kernel
theorem dX2_movePackets_56 : decode cX2_movePackets 56 = .ok (.iinc 3 1, 3) := by decide +kernel
theorem dX2_movePackets_59 : decode cX2_movePackets 59 = .ok (.goto (-49), 3) := by decide +kernel
theorem dX2_movePackets_62 : decode cX2_movePackets 62 = .ok (.return_, 1) := by decide +kernel
theorem dX2_handle_0 : decode cX2_handle 0 = .ok (.aload_n 1, 1) := by decide +kernel
theorem dX2_handle_1 : decode cX2_handle 1 = .ok (.iload_n 2, 1) := by decide +kernel
theorem dX2_handle_2 : decode cX2_handle 2 = .ok (.invokevirtual 230, 3) := by decide +kernel
theorem dX2_handle_5 : decode cX2_handle 5 = .ok (.iload_n 2, 1) := by decide +kernel
theorem dX2_handle_6 : decode cX2_handle 6 = .ok (.aload_n 1, 1) := by decide +kernel
theorem dX2_handle_7 : decode cX2_handle 7 = .ok (.getfield 233, 3) := by decide +kernel
theorem dX2_handle_10 : decode cX2_handle 10 = .ok (.if_icmp .ne 9, 3) := by decide +kernel
theorem dX2_handle_13 : decode cX2_handle 13 = .ok (.aload_n 1, 1) := by decide +kernel
theorem dX2_handle_14 : decode cX2_handle 14 = .ok (.iconst 1, 1) := by decide +kernel
theorem dX2_handle_15 : decode cX2_handle 15 = .ok (.putfield 168, 3) := by decide +kernel
theorem dX2_handle_18 : decode cX2_handle 18 = .ok (.return_, 1) := by decide +kernel
theorem dX2_handle_19 : decode cX2_handle 19 = .ok (.aload_n 1, 1) := by decide +kernel
theorem dX2_handle_20 : decode cX2_handle 20 = .ok (.getfield 171, 3) := by decide +kernel
theorem dX2_handle_23 : decode cX2_handle 23 = .ok (.ifCond .ne 9, 3) := by decide +kernel
theorem dX2_handle_26 : decode cX2_handle 26 = .ok (.aload_n 1, 1) := by decide +kernel
theorem dX2_handle_27 : decode cX2_handle 27 = .ok (.iconst 2, 1) := by decide +kernel
theorem dX2_handle_28 : decode cX2_handle 28 = .ok (.putfield 168, 3) := by decide +kernel
theorem dX2_handle_31 : decode cX2_handle 31 = .ok (.return_, 1) := by decide +kernel
theorem dX2_handle_32 : decode cX2_handle 32 = .ok (.aload_n 0, 1) := by decide +kernel
theorem dX2_handle_33 : decode cX2_handle 33 = .ok (.iload_n 2, 1) := by decide +kernel
theorem dX2_handle_34 : decode cX2_handle 34 = .ok (.aload_n 1, 1) := by decide +kernel
theorem dX2_handle_35 : decode cX2_handle 35 = .ok (.getfield 233, 3) := by decide +kernel
theorem dX2_handle_38 : decode cX2_handle 38 = .ok (.invokevirtual 152, 3) := by decide +kernel
theorem dX2_handle_41 : decode cX2_handle 41 = .ok (.istore_n 3, 1) := by decide +kernel
theorem dX2_handle_42 : decode cX2_handle 42 = .ok (.iload_n 3, 1) := by decide +kernel
theorem dX2_handle_43 : decode cX2_handle 43 = .ok (.iconst (-1), 1) := by decide +kernel
theorem dX2_handle_44 : decode cX2_handle 44 = .ok (.if_icmp .eq 12, 3) := by decide +kernel
theorem dX2_handle_47 : decode cX2_handle 47 = .ok (.aload_n 0, 1) := by decide +kernel
theorem dX2_handle_48 : decode cX2_handle 48 = .ok (.iload_n 2, 1) := by decide +kernel
theorem dX2_handle_49 : decode cX2_handle 49 = .ok (.iload_n 3, 1) := by decide +kernel
theorem dX2_handle_50 : decode cX2_handle 50 = .ok (.invokevirtual 101, 3) := by decide +kernel
theorem dX2_handle_53 : decode cX2_handle 53 = .ok (.ifCond .ne 9, 3) := by decide +kernel
theorem dX2_handle_56 : decode cX2_handle 56 = .ok (.aload_n 1, 1) := by decide +kernel
theorem dX2_handle_57 : decode cX2_handle 57 = .ok (.iconst 3, 1) := by decide +kernel
theorem dX2_handle_58 : decode cX2_handle 58 = .ok (.putfield 168, 3) := by decide +kernel
theorem dX2_handle_61 : decode cX2_handle 61 = .ok (.return_, 1) := by decide +kernel
theorem dX2_handle_62 : decode cX2_handle 62 = .ok (.aload_n 1, 1) := by decide +kernel
theorem dX2_handle_63 : decode cX2_handle 63 = .ok (.dup, 1) := by decide +kernel
theorem dX2_handle_64 : decode cX2_handle 64 = .ok (.getfield 171, 3) := by decide +kernel
theorem dX2_handle_67 : decode cX2_handle 67 = .ok (.iconst 1, 1) := by decide +kernel
theorem dX2_handle_68 : decode cX2_handle 68 = .ok (.isub, 1) := by decide +kernel
theorem dX2_handle_69 : decode cX2_handle 69 = .ok (.putfield 171, 3) := by decide +kernel
theorem dX2_handle_72 : decode cX2_handle 72 = .ok (.aload_n 1, 1) := by decide +kernel
theorem dX2_handle_73 : decode cX2_handle 73 = .ok (.iload_n 3, 1) := by decide +kernel
theorem dX2_handle_74 : decode cX2_handle 74 = .ok (.putfield 227, 3) := by decide +kernel
theorem dX2_handle_77 : decode cX2_handle 77 = .ok (.aload_n 1, 1) := by decide +kernel
theorem dX2_handle_78 : decode cX2_handle 78 = .ok (.aload_n 0, 1) := by decide +kernel
theorem dX2_handle_79 : decode cX2_handle 79 = .ok (.getfield 118, 3) := by decide +kernel
theorem dX2_handle_82 : decode cX2_handle 82 = .ok (.aload_n 0, 1) := by decide +kernel
theorem dX2_handle_83 : decode cX2_handle 83 = .ok (.getfield 20, 3) := by decide +kernel
theorem dX2_handle_86 : decode cX2_handle 86 = .ok (.iload_n 2, 1) := by decide +kernel
theorem dX2_handle_87 : decode cX2_handle 87 = .ok (.iload_n 3, 1) := by decide +kernel
theorem dX2_handle_88 : decode cX2_handle 88 = .ok (.invokestatic 86, 3) := by decide +kernel
theorem dX2_handle_91 : decode cX2_handle 91 = .ok (.iaload, 1) := by decide +kernel
theorem dX2_handle_92 : decode cX2_handle 92 = .ok (.iadd, 1) := by decide +kernel
theorem dX2_handle_93 : decode cX2_handle 93 = .ok (.putfield 224, 3) := by decide +kernel
theorem dX2_handle_96 : decode cX2_handle 96 = .ok (.return_, 1) := by decide +kernel
theorem dX2_nextHop_0 : decode cX2_nextHop 0 = .ok (.aload_n 0, 1) := by decide +kernel
theorem dX2_nextHop_1 : decode cX2_nextHop 1 = .ok (.iload_n 1, 1) := by decide +kernel
theorem dX2_nextHop_2 : decode cX2_nextHop 2 = .ok (.iload_n 2, 1) := by decide +kernel
theorem dX2_nextHop_3 : decode cX2_nextHop 3 = .ok (.invokevirtual 149, 3) := by decide +kernel
theorem dX2_nextHop_6 : decode cX2_nextHop 6 = .ok (.iload_n 1, 1) := by decide +kernel
theorem dX2_nextHop_7 : decode cX2_nextHop 7 = .ok (.iload_n 2, 1) := by decide +kernel
theorem dX2_nextHop_8 : decode cX2_nextHop 8 = .ok (.if_icmp .eq 15, 3) := by decide +kernel
theorem dX2_nextHop_11 : decode cX2_nextHop 11 = .ok (.aload_n 0, 1) := by decide +kernel
theorem dX2_nextHop_12 : decode cX2_nextHop 12 = .ok (.getfield 47, 3) := by decide +kernel
theorem dX2_nextHop_15 : decode cX2_nextHop 15 = .ok (.iload_n 1, 1) := by decide +kernel
theorem dX2_nextHop_16 : decode cX2_nextHop 16 = .ok (.iaload, 1) := by decide +kernel
theorem dX2_nextHop_17 : decode cX2_nextHop 17 = .ok (.sipush 1000, 3) := by decide +kernel
theorem dX2_nextHop_20 : decode cX2_nextHop 20 = .ok (.if_icmp .lt 5, 3) := by decide +kernel
theorem dX2_nextHop_23 : decode cX2_nextHop 23 = .ok (.iconst (-1), 1) := by decide +kernel
theorem dX2_nextHop_24 : decode cX2_nextHop 24 = .ok (.ireturn, 1) := by decide +kernel
theorem dX2_nextHop_25 : decode cX2_nextHop 25 = .ok (.iconst 0, 1) := by decide +kernel
theorem dX2_nextHop_26 : decode cX2_nextHop 26 = .ok (.istore_n 3, 1) := by decide +kernel
theorem dX2_nextHop_27 : decode cX2_nextHop 27 = .ok (.iload_n 3, 1) := by decide +kernel
theorem dX2_nextHop_28 : decode cX2_nextHop 28 = .ok (.bipush 8, 2) := by decide +kernel
theorem dX2_nextHop_30 : decode cX2_nextHop 30 = .ok (.if_icmp .ge 43, 3) := by decide +kernel
theorem dX2_nextHop_33 : decode cX2_nextHop 33 = .ok (.aload_n 0, 1) := by decide +kernel
theorem dX2_nextHop_34 : decode cX2_nextHop 34 = .ok (.iload_n 1, 1) := by decide +kernel
theorem dX2_nextHop_35 : decode cX2_nextHop 35 = .ok (.iload_n 1, 1) := by decide +kernel
theorem dX2_nextHop_36 : decode cX2_nextHop 36 = .ok (.iload_n 3, 1) := by decide +kernel
theorem dX2_nextHop_37 : decode cX2_nextHop 37 = .ok (.invokevirtual 236, 3) := by decide +kernel
theorem dX2_nextHop_40 : decode cX2_nextHop 40 = .ok (.istore 4, 2) := by decide +kernel
theorem dX2_nextHop_42 : decode cX2_nextHop 42 = .ok (.iload 4, 2) := by decide +kernel
theorem dX2_nextHop_44 : decode cX2_nextHop 44 = .ok (.ifCond .le 23, 3) := by decide +kernel
theorem dX2_nextHop_47 : decode cX2_nextHop 47 = .ok (.iload 4, 2) := by decide +kernel
theorem dX2_nextHop_49 : decode cX2_nextHop 49 = .ok (.aload_n 0, 1) := by decide +kernel
theorem dX2_nextHop_50 : decode cX2_nextHop 50 = .ok (.getfield 47, 3) := by decide +kernel
theorem dX2_nextHop_53 : decode cX2_nextHop 53 = .ok (.iload_n 3, 1) := by decide +kernel
theorem dX2_nextHop_54 : decode cX2_nextHop 54 = .ok (.iaload, 1) := by decide +kernel
theorem dX2_nextHop_55 : decode cX2_nextHop 55 = .ok (.iadd, 1) := by decide +kernel
theorem dX2_nextHop_56 : decode cX2_nextHop 56 = .ok (.aload_n 0, 1) := by decide +kernel
theorem dX2_nextHop_57 : decode cX2_nextHop 57 = .ok (.getfield 47, 3) := by decide +kernel
theorem dX2_nextHop_60 : decode cX2_nextHop 60 = .ok (.iload_n 1, 1) := by decide +kernel
theorem dX2_nextHop_61 : decode cX2_nextHop 61 = .ok (.iaload, 1) := by decide +kernel
theorem dX2_nextHop_62 : decode cX2_nextHop 62 = .ok (.if_icmp .ne 5, 3) := by decide +kernel
theorem dX2_nextHop_65 : decode cX2_nextHop 65 = .ok (.iload_n 3, 1) := by decide +kernel
theorem dX2_nextHop_66 : decode cX2_nextHop 66 = .ok (.ireturn, 1) := by decide +kernel
theorem dX2_nextHop_67 : decode cX2_nextHop 67 = .ok (.iinc 3 1, 3) := by decide +kernel
theorem dX2_nextHop_70 : decode cX2_nextHop 70 = .ok (.goto (-43), 3) := by decide +kernel
theorem dX2_nextHop_73 : decode cX2_nextHop 73 = .ok (.iconst (-1), 1) := by decide +kernel
theorem dX2_nextHop_74 : decode cX2_nextHop 74 = .ok (.ireturn, 1) := by decide +kernel
theorem dX2_measureWays_0 : decode cX2_measureWays 0 = .ok (.iconst 0, 1) := by decide +kernel
theorem dX2_measureWays_1 : decode cX2_measureWays 1 = .ok (.istore_n 3, 1) := by decide +kernel
theorem dX2_measureWays_2 : decode cX2_measureWays 2 = .ok (.iload_n 3, 1) := by decide +kernel
theorem dX2_measureWays_3 : decode cX2_measureWays 3 = .ok (.bipush 8, 2) := by decide +kernel
theorem dX2_measureWays_5 : decode cX2_measureWays 5 = .ok (.if_icmp .ge 27, 3) := by decide +kernel
theorem dX2_measureWays_8 : decode cX2_measureWays 8 = .ok (.aload_n 0, 1) := by decide +kernel
theorem dX2_measureWays_9 : decode cX2_measureWays 9 = .ok (.getfield 47, 3) := by decide +kernel
theorem dX2_measureWays_12 : decode cX2_measureWays 12 = .ok (.iload_n 3, 1) := by decide +kernel
theorem dX2_measureWays_13 : decode cX2_measureWays 13 = .ok (.iload_n 3, 1) := by decide +kernel
theorem dX2_measureWays_14 : decode cX2_measureWays 14 = .ok (.iload_n 2, 1) := by decide +kernel
theorem dX2_measureWays_15 : decode cX2_measureWays 15 = .ok (.if_icmp .ne 7, 3) := by decide +kernel
theorem dX2_measureWays_18 : decode cX2_measureWays 18 = .ok (.iconst 0, 1) := by decide +kernel
theorem dX2_measureWays_19 : decode cX2_measureWays 19 = .ok (.goto 6, 3) := by decide +kernel
theorem dX2_measureWays_22 : decode cX2_measureWays 22 = .ok (.sipush 1000, 3) := by decide +kernel
theorem dX2_measureWays_25 : decode cX2_measureWays 25 = .ok (.iastore, 1) := by decide +kernel
theorem dX2_measureWays_26 : decode cX2_measureWays 26 = .ok (.iinc 3 1, 3) := by decide +kernel
theorem dX2_measureWays_29 : decode cX2_measureWays 29 = .ok (.goto (-27), 3) := by decide +kernel
theorem dX2_measureWays_32 : decode cX2_measureWays 32 = .ok (.iconst 1, 1) := by decide +kernel
theorem dX2_measureWays_33 : decode cX2_measureWays 33 = .ok (.istore_n 3, 1) := by decide +kernel
theorem dX2_measureWays_34 : decode cX2_measureWays 34 = .ok (.iload_n 3, 1) := by decide +kernel
theorem dX2_measureWays_35 : decode cX2_measureWays 35 = .ok (.bipush 8, 2) := by decide +kernel
theorem dX2_measureWays_37 : decode cX2_measureWays 37 = .ok (.if_icmp .ge 94, 3) := by decide +kernel
theorem dX2_measureWays_40 : decode cX2_measureWays 40 = .ok (.iconst 0, 1) := by decide +kernel
theorem dX2_measureWays_41 : decode cX2_measureWays 41 = .ok (.istore 4, 2) := by decide +kernel
theorem dX2_measureWays_43 : decode cX2_measureWays 43 = .ok (.iload 4, 2) := by decide +kernel
theorem dX2_measureWays_45 : decode cX2_measureWays 45 = .ok (.bipush 8, 2) := by decide +kernel
theorem dX2_measureWays_47 : decode cX2_measureWays 47 = .ok (.if_icmp .ge 78, 3) := by decide +kernel
theorem dX2_measureWays_50 : decode cX2_measureWays 50 = .ok (.iconst 0, 1) := by decide +kernel
theorem dX2_measureWays_51 : decode cX2_measureWays 51 = .ok (.istore 5, 2) := by decide +kernel
theorem dX2_measureWays_53 : decode cX2_measureWays 53 = .ok (.iload 5, 2) := by decide +kernel
theorem dX2_measureWays_55 : decode cX2_measureWays 55 = .ok (.bipush 8, 2) := by decide +kernel
theorem dX2_measureWays_57 : decode cX2_measureWays 57 = .ok (.if_icmp .ge 62, 3) := by decide +kernel
theorem dX2_measureWays_60 : decode cX2_measureWays 60 = .ok (.aload_n 0, 1) := by decide +kernel
theorem dX2_measureWays_61 : decode cX2_measureWays 61 = .ok (.iload_n 1, 1) := by decide +kernel
theorem dX2_measureWays_62 : decode cX2_measureWays 62 = .ok (.iload 4, 2) := by decide +kernel
theorem dX2_measureWays_64 : decode cX2_measureWays 64 = .ok (.iload 5, 2) := by decide +kernel
theorem dX2_measureWays_66 : decode cX2_measureWays 66 = .ok (.invokevirtual 236, 3) := by decide +kernel
theorem dX2_measureWays_69 : decode cX2_measureWays 69 = .ok (.istore 6, 2) := by decide +kernel
theorem dX2_measureWays_71 : decode cX2_measureWays 71 = .ok (.iload 6, 2) := by decide +kernel
theorem dX2_measureWays_73 : decode cX2_measureWays 73 = .ok (.ifCond .le 40, 3) := by decide +kernel
theorem dX2_measureWays_76 : decode cX2_measureWays 76 = .ok (.iload 6, 2) := by decide +kernel
theorem dX2_measureWays_78 : decode cX2_measureWays 78 = .ok (.aload_n 0, 1) := by decide +kernel
theorem dX2_measureWays_79 : decode cX2_measureWays 79 = .ok (.getfield 47, 3) := by decide +kernel
theorem dX2_measureWays_82 : decode cX2_measureWays 82 = .ok (.iload 5, 2) := by decide +kernel
theorem dX2_measureWays_84 : decode cX2_measureWays 84 = .ok (.iaload, 1) := by decide +kernel
theorem dX2_measureWays_85 : decode cX2_measureWays 85 = .ok (.iadd, 1) := by decide +kernel
theorem dX2_measureWays_86 : decode cX2_measureWays 86 = .ok (.aload_n 0, 1) := by decide +kernel
theorem dX2_measureWays_87 : decode cX2_measureWays 87 = .ok (.getfield 47, 3) := by decide +kernel
theorem dX2_measureWays_90 : decode cX2_measureWays 90 = .ok (.iload 4, 2) := by decide +kernel
theorem dX2_measureWays_92 : decode cX2_measureWays 92 = .ok (.iaload, 1) := by decide +kernel
theorem dX2_measureWays_93 : decode cX2_measureWays 93 = .ok (.if_icmp .ge 20, 3) := by decide +kernel
theorem dX2_measureWays_96 : decode cX2_measureWays 96 = .ok (.aload_n 0, 1) := by decide +kernel
theorem dX2_measureWays_97 : decode cX2_measureWays 97 = .ok (.getfield 47, 3) := by decide +kernel
theorem dX2_measureWays_100 : decode cX2_measureWays 100 = .ok (.iload 4, 2) := by decide +kernel
theorem dX2_measureWays_102 : decode cX2_measureWays 102 = .ok (.iload 6, 2) := by decide +kernel
theorem dX2_measureWays_104 : decode cX2_measureWays 104 = .ok (.aload_n 0, 1) := by decide +kernel
theorem dX2_measureWays_105 : decode cX2_measureWays 105 = .ok (.getfield 47, 3) := by decide +kernel
theorem dX2_measureWays_108 : decode cX2_measureWays 108 = .ok (.iload 5, 2) := by decide +kernel
theorem dX2_measureWays_110 : decode cX2_measureWays 110 = .ok (.iaload, 1) := by decide +kernel
theorem dX2_measureWays_111 : decode cX2_measureWays 111 = .ok (.iadd, 1) := by decide +kernel
theorem dX2_measureWays_112 : decode cX2_measureWays 112 = .ok (.iastore, 1) := by decide +kernel
theorem dX2_measureWays_113 : decode cX2_measureWays 113 = .ok (.iinc 5 1, 3) := by decide +kernel
theorem dX2_measureWays_116 : decode cX2_measureWays 116 = .ok (.goto (-63), 3) := by decide +kernel
theorem dX2_measureWays_119 : decode cX2_measureWays 119 = .ok (.iinc 4 1, 3) := by decide +kernel
theorem dX2_measureWays_122 : decode cX2_measureWays 122 = .ok (.goto (-79), 3) := by decide +kernel
theorem dX2_measureWays_125 : decode cX2_measureWays 125 = .ok (.iinc 3 1, 3) := by decide +kernel
theorem dX2_measureWays_128 : decode cX2_measureWays 128 = .ok (.goto (-94), 3) := by decide +kernel
theorem dX2_measureWays_131 : decode cX2_measureWays 131 = .ok (.return_, 1) := by decide +kernel
theorem dX2_stepCost_0 : decode cX2_stepCost 0 = .ok (.aload_n 0, 1) := by decide +kernel
theorem dX2_stepCost_1 : decode cX2_stepCost 1 = .ok (.getfield 31, 3) := by decide +kernel
theorem dX2_stepCost_4 : decode cX2_stepCost 4 = .ok (.iload_n 1, 1) := by decide +kernel
theorem dX2_stepCost_5 : decode cX2_stepCost 5 = .ok (.iload_n 3, 1) := by decide +kernel
theorem dX2_stepCost_6 : decode cX2_stepCost 6 = .ok (.invokestatic 107, 3) := by decide +kernel
theorem dX2_stepCost_9 : decode cX2_stepCost 9 = .ok (.iload_n 2, 1) := by decide +kernel
theorem dX2_stepCost_10 : decode cX2_stepCost 10 = .ok (.invokevirtual 143, 3) := by decide +kernel
theorem dX2_stepCost_13 : decode cX2_stepCost 13 = .ok (.istore 4, 2) := by decide +kernel
theorem dX2_stepCost_15 : decode cX2_stepCost 15 = .ok (.iload 4, 2) := by decide +kernel
theorem dX2_stepCost_17 : decode cX2_stepCost 17 = .ok (.ifCond .le 19, 3) := by decide +kernel
theorem dX2_stepCost_20 : decode cX2_stepCost 20 = .ok (.aload_n 0, 1) := by decide +kernel
theorem dX2_stepCost_21 : decode cX2_stepCost 21 = .ok (.getfield 31, 3) := by decide +kernel
theorem dX2_stepCost_24 : decode cX2_stepCost 24 = .ok (.iload_n 1, 1) := by decide +kernel
theorem dX2_stepCost_25 : decode cX2_stepCost 25 = .ok (.iload_n 2, 1) := by decide +kernel
theorem dX2_stepCost_26 : decode cX2_stepCost 26 = .ok (.invokestatic 107, 3) := by decide +kernel
theorem dX2_stepCost_29 : decode cX2_stepCost 29 = .ok (.iload_n 3, 1) := by decide +kernel
theorem dX2_stepCost_30 : decode cX2_stepCost 30 = .ok (.invokevirtual 143, 3) := by decide +kernel
theorem dX2_stepCost_33 : decode cX2_stepCost 33 = .ok (.goto 4, 3) := by decide +kernel
theorem dX2_stepCost_36 : decode cX2_stepCost 36 = .ok (.iconst 0, 1) := by decide +kernel
theorem dX2_stepCost_37 : decode cX2_stepCost 37 = .ok (.ireturn, 1) := by decide +kernel
theorem dX2_agreeOn_0 : decode cX2_agreeOn 0 = .ok (.aload_n 0, 1) := by decide +kernel
theorem dX2_agreeOn_1 : decode cX2_agreeOn 1 = .ok (.iload_n 1, 1) := by decide +kernel
theorem dX2_agreeOn_2 : decode cX2_agreeOn 2 = .ok (.invokevirtual 239, 3) := by decide +kernel
theorem dX2_agreeOn_5 : decode cX2_agreeOn 5 = .ok (.istore_n 2, 1) := by decide +kernel
theorem dX2_agreeOn_6 : decode cX2_agreeOn 6 = .ok (.iconst 0, 1) := by decide +kernel
theorem dX2_agreeOn_7 : decode cX2_agreeOn 7 = .ok (.istore_n 3, 1) := by decide +kernel
theorem dX2_agreeOn_8 : decode cX2_agreeOn 8 = .ok (.iload_n 3, 1) := by decide +kernel
theorem dX2_agreeOn_9 : decode cX2_agreeOn 9 = .ok (.bipush 8, 2) := by decide +kernel
theorem dX2_agreeOn_11 : decode cX2_agreeOn 11 = .ok (.if_icmp .ge 61, 3) := by decide +kernel
theorem dX2_agreeOn_14 : decode cX2_agreeOn 14 = .ok (.iload_n 2, 1) := by decide +kernel
theorem dX2_agreeOn_15 : decode cX2_agreeOn 15 = .ok (.iload_n 3, 1) := by decide +kernel
theorem dX2_agreeOn_16 : decode cX2_agreeOn 16 = .ok (.ishr, 1) := by decide +kernel
theorem dX2_agreeOn_17 : decode cX2_agreeOn 17 = .ok (.iconst 1, 1) := by decide +kernel
theorem dX2_agreeOn_18 : decode cX2_agreeOn 18 = .ok (.iand, 1) := by decide +kernel
theorem dX2_agreeOn_19 : decode cX2_agreeOn 19 = .ok (.iconst 1, 1) := by decide +kernel
theorem dX2_agreeOn_20 : decode cX2_agreeOn 20 = .ok (.if_icmp .ne 7, 3) := by decide +kernel
theorem dX2_agreeOn_23 : decode cX2_agreeOn 23 = .ok (.iconst 1, 1) := by decide +kernel
theorem dX2_agreeOn_24 : decode cX2_agreeOn 24 = .ok (.goto 4, 3) := by decide +kernel
theorem dX2_agreeOn_27 : decode cX2_agreeOn 27 = .ok (.iconst 0, 1) := by decide +kernel
theorem dX2_agreeOn_28 : decode cX2_agreeOn 28 = .ok (.istore 4, 2) := by decide +kernel
theorem dX2_agreeOn_30 : decode cX2_agreeOn 30 = .ok (.iload 4, 2) := by decide +kernel
theorem dX2_agreeOn_32 : decode cX2_agreeOn 32 = .ok (.ifCond .eq 34, 3) := by decide +kernel
theorem dX2_agreeOn_35 : decode cX2_agreeOn 35 = .ok (.aload_n 0, 1) := by decide +kernel
theorem dX2_agreeOn_36 : decode cX2_agreeOn 36 = .ok (.getfield 31, 3) := by decide +kernel
theorem dX2_agreeOn_39 : decode cX2_agreeOn 39 = .ok (.getfield 133, 3) := by decide +kernel
theorem dX2_agreeOn_42 : decode cX2_agreeOn 42 = .ok (.iload_n 3, 1) := by decide +kernel
theorem dX2_agreeOn_43 : decode cX2_agreeOn 43 = .ok (.iload_n 1, 1) := by decide +kernel
theorem dX2_agreeOn_44 : decode cX2_agreeOn 44 = .ok (.invokestatic 107, 3) := by decide +kernel
theorem dX2_agreeOn_47 : decode cX2_agreeOn 47 = .ok (.iaload, 1) := by decide +kernel
theorem dX2_agreeOn_48 : decode cX2_agreeOn 48 = .ok (.aload_n 0, 1) := by decide +kernel
theorem dX2_agreeOn_49 : decode cX2_agreeOn 49 = .ok (.getfield 31, 3) := by decide +kernel
theorem dX2_agreeOn_52 : decode cX2_agreeOn 52 = .ok (.getfield 133, 3) := by decide +kernel
theorem dX2_agreeOn_55 : decode cX2_agreeOn 55 = .ok (.iload_n 1, 1) := by decide +kernel
theorem dX2_agreeOn_56 : decode cX2_agreeOn 56 = .ok (.iload_n 1, 1) := by decide +kernel
theorem dX2_agreeOn_57 : decode cX2_agreeOn 57 = .ok (.invokestatic 107, 3) := by decide +kernel
theorem dX2_agreeOn_60 : decode cX2_agreeOn 60 = .ok (.iaload, 1) := by decide +kernel
theorem dX2_agreeOn_61 : decode cX2_agreeOn 61 = .ok (.if_icmp .eq 5, 3) := by decide +kernel
theorem dX2_agreeOn_64 : decode cX2_agreeOn 64 = .ok (.iconst 0, 1) := by decide +kernel
theorem dX2_agreeOn_65 : decode cX2_agreeOn 65 = .ok (.ireturn, 1) := by decide +kernel
theorem dX2_agreeOn_66 : decode cX2_agreeOn 66 = .ok (.iinc 3 1, 3) := by decide +kernel
theorem dX2_agreeOn_69 : decode cX2_agreeOn 69 = .ok (.goto (-61), 3) := by decide +kernel
theorem dX2_agreeOn_72 : decode cX2_agreeOn 72 = .ok (.iconst 1, 1) := by decide +kernel
theorem dX2_agreeOn_73 : decode cX2_agreeOn 73 = .ok (.ireturn, 1) := by decide +kernel
theorem dX2_joinedWith_0 : decode cX2_joinedWith 0 = .ok (.iconst 1, 1) := by decide +kernel
theorem dX2_joinedWith_1 : decode cX2_joinedWith 1 = .ok (.iload_n 1, 1) := by decide +kernel
theorem dX2_joinedWith_2 : decode cX2_joinedWith 2 = .ok (.ishl, 1) := by decide +kernel
theorem dX2_joinedWith_3 : decode cX2_joinedWith 3 = .ok (.istore_n 2, 1) := by decide +kernel
theorem dX2_joinedWith_4 : decode cX2_joinedWith 4 = .ok (.iconst 1, 1) := by decide +kernel
theorem dX2_joinedWith_5 : decode cX2_joinedWith 5 = .ok (.istore_n 3, 1) := by decide +kernel
theorem dX2_joinedWith_6 : decode cX2_joinedWith 6 = .ok (.iload_n 3, 1) := by decide +kernel
theorem dX2_joinedWith_7 : decode cX2_joinedWith 7 = .ok (.bipush 8, 2) := by decide +kernel
theorem dX2_joinedWith_9 : decode cX2_joinedWith 9 = .ok (.if_icmp .ge 44, 3) := by decide +kernel
theorem dX2_joinedWith_12 : decode cX2_joinedWith 12 = .ok (.iconst 0, 1) := by decide +kernel
theorem dX2_joinedWith_13 : decode cX2_joinedWith 13 = .ok (.istore 4, 2) := by decide +kernel
theorem dX2_joinedWith_15 : decode cX2_joinedWith 15 = .ok (.iload 4, 2) := by decide +kernel
theorem dX2_joinedWith_17 : decode cX2_joinedWith 17 = .ok (.bipush 8, 2) := by decide +kernel
theorem dX2_joinedWith_19 : decode cX2_joinedWith 19 = .ok (.if_icmp .ge 28, 3) := by decide +kernel
theorem dX2_joinedWith_22 : decode cX2_joinedWith 22 = .ok (.iload_n 2, 1) := by decide +kernel
theorem dX2_joinedWith_23 : decode cX2_joinedWith 23 = .ok (.iload 4, 2) := by decide +kernel
theorem dX2_joinedWith_25 : decode cX2_joinedWith 25 = .ok (.ishr, 1) := by decide +kernel
theorem dX2_joinedWith_26 : decode cX2_joinedWith 26 = .ok (.iconst 1, 1) := by decide +kernel
theorem dX2_joinedWith_27 : decode cX2_joinedWith 27 = .ok (.iand, 1) := by decide +kernel
theorem dX2_joinedWith_28 : decode cX2_joinedWith 28 = .ok (.iconst 1, 1) := by decide +kernel
theorem dX2_joinedWith_29 : decode cX2_joinedWith 29 = .ok (.if_icmp .ne 12, 3) := by decide +kernel
theorem dX2_joinedWith_32 : decode cX2_joinedWith 32 = .ok (.iload_n 2, 1) := by decide +kernel
theorem dX2_joinedWith_33 : decode cX2_joinedWith 33 = .ok (.aload_n 0, 1) := by decide +kernel
theorem dX2_joinedWith_34 : decode cX2_joinedWith 34 = .ok (.iload 4, 2) := by decide +kernel
theorem dX2_joinedWith_36 : decode cX2_joinedWith 36 = .ok (.invokevirtual 242, 3) := by decide +kernel
theorem dX2_joinedWith_39 : decode cX2_joinedWith 39 = .ok (.ior, 1) := by decide +kernel
theorem dX2_joinedWith_40 : decode cX2_joinedWith 40 = .ok (.istore_n 2, 1) := by decide +kernel
theorem dX2_joinedWith_41 : decode cX2_joinedWith 41 = .ok (.iinc 4 1, 3) := by decide +kernel
theorem dX2_joinedWith_44 : decode cX2_joinedWith 44 = .ok (.goto (-29), 3) := by decide +kernel
theorem dX2_joinedWith_47 : decode cX2_joinedWith 47 = .ok (.iinc 3 1, 3) := by decide +kernel
theorem dX2_joinedWith_50 : decode cX2_joinedWith 50 = .ok (.goto (-44), 3) := by decide +kernel
theorem dX2_joinedWith_53 : decode cX2_joinedWith 53 = .ok (.iload_n 2, 1) := by decide +kernel
theorem dX2_joinedWith_54 : decode cX2_joinedWith 54 = .ok (.ireturn, 1) := by decide +kernel
theorem dX2_neighbours_0 : decode cX2_neighbours 0 = .ok (.iconst 0, 1) := by decide +kernel
theorem dX2_neighbours_1 : decode cX2_neighbours 1 = .ok (.istore_n 2, 1) := by decide +kernel
theorem dX2_neighbours_2 : decode cX2_neighbours 2 = .ok (.iconst 0, 1) := by decide +kernel
theorem dX2_neighbours_3 : decode cX2_neighbours 3 = .ok (.istore_n 3, 1) := by decide +kernel
theorem dX2_neighbours_4 : decode cX2_neighbours 4 = .ok (.iload_n 3, 1) := by decide +kernel
theorem dX2_neighbours_5 : decode cX2_neighbours 5 = .ok (.bipush 8, 2) := by decide +kernel
theorem dX2_neighbours_7 : decode cX2_neighbours 7 = .ok (.if_icmp .ge 24, 3) := by decide +kernel
theorem dX2_neighbours_10 : decode cX2_neighbours 10 = .ok (.aload_n 0, 1) := by decide +kernel
theorem dX2_neighbours_11 : decode cX2_neighbours 11 = .ok (.iload_n 1, 1) := by decide +kernel
theorem dX2_neighbours_12 : decode cX2_neighbours 12 = .ok (.iload_n 3, 1) := by decide +kernel
theorem dX2_neighbours_13 : decode cX2_neighbours 13 = .ok (.invokevirtual 101, 3) := by decide +kernel
theorem dX2_neighbours_16 : decode cX2_neighbours 16 = .ok (.ifCond .eq 9, 3) := by decide +kernel
theorem dX2_neighbours_19 : decode cX2_neighbours 19 = .ok (.iload_n 2, 1) := by decide +kernel
theorem dX2_neighbours_20 : decode cX2_neighbours 20 = .ok (.iconst 1, 1) := by decide +kernel
theorem dX2_neighbours_21 : decode cX2_neighbours 21 = .ok (.iload_n 3, 1) := by decide +kernel
theorem dX2_neighbours_22 : decode cX2_neighbours 22 = .ok (.ishl, 1) := by decide +kernel
theorem dX2_neighbours_23 : decode cX2_neighbours 23 = .ok (.ior, 1) := by decide +kernel
theorem dX2_neighbours_24 : decode cX2_neighbours 24 = .ok (.istore_n 2, 1) := by decide +kernel
theorem dX2_neighbours_25 : decode cX2_neighbours 25 = .ok (.iinc 3 1, 3) := by decide +kernel
theorem dX2_neighbours_28 : decode cX2_neighbours 28 = .ok (.goto (-24), 3) := by decide +kernel
theorem dX2_neighbours_31 : decode cX2_neighbours 31 = .ok (.iload_n 2, 1) := by decide +kernel
theorem dX2_neighbours_32 : decode cX2_neighbours 32 = .ok (.ireturn, 1) := by decide +kernel
theorem dJ9_max_7cf53_0 : decode cJ9_max_7cf53 0 = .ok (.iload_n 0, 1) := by decide +kernel
theorem dJ9_max_7cf53_1 : decode cJ9_max_7cf53 1 = .ok (.iload_n 1, 1) := by decide +kernel
theorem dJ9_max_7cf53_2 : decode cJ9_max_7cf53 2 = .ok (.if_icmp .lt 7, 3) := by decide +kernel
theorem dJ9_max_7cf53_5 : decode cJ9_max_7cf53 5 = .ok (.iload_n 0, 1) := by decide +kernel
theorem dJ9_max_7cf53_6 : decode cJ9_max_7cf53 6 = .ok (.goto 4, 3) := by decide +kernel
theorem dJ9_max_7cf53_9 : decode cJ9_max_7cf53 9 = .ok (.iload_n 1, 1) := by decide +kernel
theorem dJ9_max_7cf53_10 : decode cJ9_max_7cf53 10 = .ok (.ireturn, 1) := by decide +kernel
theorem dJ9_min_7cf53_0 : decode cJ9_min_7cf53 0 = .ok (.iload_n 0, 1) := by decide +kernel
theorem dJ9_min_7cf53_1 : decode cJ9_min_7cf53 1 = .ok (.iload_n 1, 1) := by decide +kernel
theorem dJ9_min_7cf53_2 : decode cJ9_min_7cf53 2 = .ok (.if_icmp .gt 7, 3) := by decide +kernel
theorem dJ9_min_7cf53_5 : decode cJ9_min_7cf53 5 = .ok (.iload_n 0, 1) := by decide +kernel
theorem dJ9_min_7cf53_6 : decode cJ9_min_7cf53 6 = .ok (.goto 4, 3) := by decide +kernel
theorem dJ9_min_7cf53_9 : decode cJ9_min_7cf53 9 = .ok (.iload_n 1, 1) := by decide +kernel
theorem dJ9_min_7cf53_10 : decode cJ9_min_7cf53 10 = .ok (.ireturn, 1) := by decide +kernel
end
section
theorem dX3_init_0 : decode cX3_init 0 = .ok (.aload_n 0, 1) := by decide +kernel
theorem dX3_init_1 : decode cX3_init 1 = .ok (.invokespecial 1, 3) := by decide +kernel
theorem dX3_init_4 : decode cX3_init 4 = .ok (.aload_n 0, 1) := by decide +kernel
theorem dX3_init_5 : decode cX3_init 5 = .ok (.bipush 8, 2) := by decide +kernel
theorem dX3_init_7 : decode cX3_init 7 = .ok (.newarray .boolean, 2) := by decide +kernel
theorem dX3_init_9 : decode cX3_init 9 = .ok (.putfield 7, 3) := by decide +kernel
theorem dX3_init_12 : decode cX3_init 12 = .ok (.aload_n 0, 1) := by decide +kernel
theorem dX3_init_13 : decode cX3_init 13 = .ok (.bipush 8, 2) := by decide +kernel
theorem dX3_init_15 : decode cX3_init 15 = .ok (.newarray .int, 2) := by decide +kernel
theorem dX3_init_17 : decode cX3_init 17 = .ok (.putfield 13, 3) := by decide +kernel
theorem dX3_init_20 : decode cX3_init 20 = .ok (.aload_n 0, 1) := by decide +kernel
theorem dX3_init_21 : decode cX3_init 21 = .ok (.bipush 64, 2) := by decide +kernel
theorem dX3_init_23 : decode cX3_init 23 = .ok (.newarray .boolean, 2) := by decide +kernel
theorem dX3_init_25 : decode cX3_init 25 = .ok (.putfield 17, 3) := by decide +kernel
theorem dX3_init_28 : decode cX3_init 28 = .ok (.aload_n 0, 1) := by decide +kernel
theorem dX3_init_29 : decode cX3_init 29 = .ok (.bipush 64, 2) := by decide +kernel
theorem dX3_init_31 : decode cX3_init 31 = .ok (.newarray .int, 2) := by decide +kernel
theorem dX3_init_33 : decode cX3_init 33 = .ok (.putfield 20, 3) := by decide +kernel
theorem dX3_init_36 : decode cX3_init 36 = .ok (.aload_n 0, 1) := by decide +kernel
theorem dX3_init_37 : decode cX3_init 37 = .ok (.bipush 64, 2) := by decide +kernel
theorem dX3_init_39 : decode cX3_init 39 = .ok (.newarray .int, 2) := by decide +kernel
theorem dX3_init_41 : decode cX3_init 41 = .ok (.putfield 23, 3) := by decide +kernel
theorem dX3_init_44 : decode cX3_init 44 = .ok (.aload_n 0, 1) := by decide +kernel
theorem dX3_init_45 : decode cX3_init 45 = .ok (.bipush 64, 2) := by decide +kernel
theorem dX3_init_47 : decode cX3_init 47 = .ok (.newarray .boolean, 2) := by decide +kernel
theorem dX3_init_49 : decode cX3_init 49 = .ok (.putfield 26, 3) := by decide +kernel
theorem dX3_init_52 : decode cX3_init 52 = .ok (.aload_n 0, 1) := by decide +kernel
theorem dX3_init_53 : decode cX3_init 53 = .ok (.bipush 64, 2) := by decide +kernel
theorem dX3_init_55 : decode cX3_init 55 = .ok (.newarray .int, 2) := by decide +kernel
theorem dX3_init_57 : decode cX3_init 57 = .ok (.putfield 29, 3) := by decide +kernel
theorem dX3_init_60 : decode cX3_init 60 = .ok (.aload_n 0, 1) := by decide +kernel
theorem dX3_init_61 : decode cX3_init 61 = .ok (.bipush 64, 2) := by decide +kernel
theorem dX3_init_63 : decode cX3_init 63 = .ok (.newarray .int, 2) := by decide +kernel
theorem dX3_init_65 : decode cX3_init 65 = .ok (.putfield 32, 3) := by decide +kernel
theorem dX3_init_68 : decode cX3_init 68 = .ok (.aload_n 0, 1) := by decide +kernel
theorem dX3_init_69 : decode cX3_init 69 = .ok (.sipush 512, 3) := by decide +kernel
theorem dX3_init_72 : decode cX3_init 72 = .ok (.newarray .int, 2) := by decide +kernel
theorem dX3_init_74 : decode cX3_init 74 = .ok (.putfield 35, 3) := by decide +kernel
theorem dX3_init_77 : decode cX3_init 77 = .ok (.aload_n 0, 1) := by decide +kernel
theorem dX3_init_78 : decode cX3_init 78 = .ok (.sipush 512, 3) := by decide +kernel
theorem dX3_init_81 : decode cX3_init 81 = .ok (.newarray .int, 2) := by decide +kernel
theorem dX3_init_83 : decode cX3_init 83 = .ok (.putfield 38, 3) := by decide +kernel
theorem dX3_init_86 : decode cX3_init 86 = .ok (.aload_n 0, 1) := by decide +kernel
theorem dX3_init_87 : decode cX3_init 87 = .ok (.sipush 512, 3) := by decide +kernel
theorem dX3_init_90 : decode cX3_init 90 = .ok (.newarray .int, 2) := by decide +kernel
theorem dX3_init_92 : decode cX3_init 92 = .ok (.putfield 41, 3) := by decide +kernel
theorem dX3_init_95 : decode cX3_init 95 = .ok (.aload_n 0, 1) := by decide +kernel
theorem dX3_init_96 : decode cX3_init 96 = .ok (.sipush 512, 3) := by decide +kernel
theorem dX3_init_99 : decode cX3_init 99 = .ok (.newarray .int, 2) := by decide +kernel
theorem dX3_init_101 : decode cX3_init 101 = .ok (.putfield 44, 3) := by decide +kernel
theorem dX3_init_104 : decode cX3_init 104 = .ok (.aload_n 0, 1) := by decide +kernel
theorem dX3_init_105 : decode cX3_init 105 = .ok (.sipush 4096, 3) := by decide +kernel
theorem dX3_init_108 : decode cX3_init 108 = .ok (.newarray .int, 2) := by decide +kernel
theorem dX3_init_110 : decode cX3_init 110 = .ok (.putfield 47, 3) := by decide +kernel
theorem dX3_init_113 : decode cX3_init 113 = .ok (.aload_n 0, 1) := by decide +kernel
theorem dX3_init_114 : decode cX3_init 114 = .ok (.bipush 20, 2) := by decide +kernel
theorem dX3_init_116 : decode cX3_init 116 = .ok (.newarray .int, 2) := by decide +kernel
theorem dX3_init_118 : decode cX3_init 118 = .ok (.putfield 50, 3) := by decide +kernel
theorem dX3_init_121 : decode cX3_init 121 = .ok (.aload_n 0, 1) := by decide +kernel
theorem dX3_init_122 : decode cX3_init 122 = .ok (.bipush 20, 2) := by decide +kernel
theorem dX3_init_124 : decode cX3_init 124 = .ok (.newarray .int, 2) := by decide +kernel
theorem dX3_init_126 : decode cX3_init 126 = .ok (.putfield 53, 3) := by decide +kernel
theorem dX3_init_129 : decode cX3_init 129 = .ok (.aload_n 0, 1) := by decide +kernel
theorem dX3_init_130 : decode cX3_init 130 = .ok (.bipush 20, 2) := by decide +kernel
theorem dX3_init_132 : decode cX3_init 132 = .ok (.newarray .int, 2) := by decide +kernel
theorem dX3_init_134 : decode cX3_init 134 = .ok (.putfield 56, 3) := by decide +kernel
theorem dX3_init_137 : decode cX3_init 137 = .ok (.aload_n 0, 1) := by decide +kernel
theorem dX3_init_138 : decode cX3_init 138 = .ok (.bipush 20, 2) := by decide +kernel
theorem dX3_init_140 : decode cX3_init 140 = .ok (.newarray .int, 2) := by decide +kernel
theorem dX3_init_142 : decode cX3_init 142 = .ok (.putfield 59, 3) := by decide +kernel
theorem dX3_init_145 : decode cX3_init 145 = .ok (.aload_n 0, 1) := by decide +kernel
theorem dX3_init_146 : decode cX3_init 146 = .ok (.bipush 20, 2) := by decide +kernel
theorem dX3_init_148 : decode cX3_init 148 = .ok (.newarray .int, 2) := by decide +kernel
theorem dX3_init_150 : decode cX3_init 150 = .ok (.putfield 62, 3) := by decide +kernel
theorem dX3_init_153 : decode cX3_init 153 = .ok (.aload_n 0, 1) := by decide +kernel
theorem dX3_init_154 : decode cX3_init 154 = .ok (.bipush 20, 2) := by decide +kernel
theorem dX3_init_156 : decode cX3_init 156 = .ok (.newarray .int, 2) := by decide +kernel
theorem dX3_init_158 : decode cX3_init 158 = .ok (.putfield 65, 3) := by decide +kernel
theorem dX3_init_161 : decode cX3_init 161 = .ok (.aload_n 0, 1) := by decide +kernel
theorem dX3_init_162 : decode cX3_init 162 = .ok (.bipush 20, 2) := by decide +kernel
theorem dX3_init_164 : decode cX3_init 164 = .ok (.newarray .int, 2) := by decide +kernel
theorem dX3_init_166 : decode cX3_init 166 = .ok (.putfield 68, 3) := by decide +kernel
theorem dX3_init_169 : decode cX3_init 169 = .ok (.aload_n 0, 1) := by decide +kernel
theorem dX3_init_170 : decode cX3_init 170 = .ok (.sipush 800, 3) := by decide +kernel
theorem dX3_init_173 : decode cX3_init 173 = .ok (.newarray .int, 2) := by decide +kernel
theorem dX3_init_175 : decode cX3_init 175 = .ok (.putfield 71, 3) := by decide +kernel
theorem dX3_init_178 : decode cX3_init 178 = .ok (.aload_n 0, 1) := by decide +kernel
theorem dX3_init_179 : decode cX3_init 179 = .ok (.bipush 8, 2) := by decide +kernel
theorem dX3_init_181 : decode cX3_init 181 = .ok (.newarray .int, 2) := by decide +kernel
theorem dX3_init_183 : decode cX3_init 183 = .ok (.putfield 74, 3) := by decide +kernel
theorem dX3_init_186 : decode cX3_init 186 = .ok (.aload_n 0, 1) := by decide +kernel
theorem dX3_init_187 : decode cX3_init 187 = .ok (.bipush 64, 2) := by decide +kernel
theorem dX3_init_189 : decode cX3_init 189 = .ok (.newarray .boolean, 2) := by decide +kernel
theorem dX3_init_191 : decode cX3_init 191 = .ok (.putfield 77, 3) := by decide +kernel
theorem dX3_init_194 : decode cX3_init 194 = .ok (.return_, 1) := by decide +kernel
theorem dX3_thrown_0 : decode cX3_thrown 0 = .ok (.aload_n 0, 1) := by decide +kernel
theorem dX3_thrown_1 : decode cX3_thrown 1 = .ok (.getfield 80, 3) := by decide +kernel
theorem dX3_thrown_4 : decode cX3_thrown 4 = .ok (.ireturn, 1) := by decide +kernel
theorem dX3_goes_0 : decode cX3_goes 0 = .ok (.aload_n 0, 1) := by decide +kernel
theorem dX3_goes_1 : decode cX3_goes 1 = .ok (.iload_n 1, 1) := by decide +kernel
theorem dX3_goes_2 : decode cX3_goes 2 = .ok (.ifCond .ne 7, 3) := by decide +kernel
theorem dX3_goes_5 : decode cX3_goes 5 = .ok (.iconst 1, 1) := by decide +kernel
theorem dX3_goes_6 : decode cX3_goes 6 = .ok (.goto 12, 3) := by decide +kernel
theorem dX3_goes_9 : decode cX3_goes 9 = .ok (.iload_n 2, 1) := by decide +kernel
theorem dX3_goes_10 : decode cX3_goes 10 = .ok (.ifCond .ne 7, 3) := by decide +kernel
theorem dX3_goes_13 : decode cX3_goes 13 = .ok (.iconst 2, 1) := by decide +kernel
theorem dX3_goes_14 : decode cX3_goes 14 = .ok (.goto 4, 3) := by decide +kernel
theorem dX3_goes_17 : decode cX3_goes 17 = .ok (.iconst 0, 1) := by decide +kernel
theorem dX3_goes_18 : decode cX3_goes 18 = .ok (.putfield 80, 3) := by decide +kernel
theorem dX3_goes_21 : decode cX3_goes 21 = .ok (.aload_n 0, 1) := by decide +kernel
theorem dX3_goes_22 : decode cX3_goes 22 = .ok (.getfield 80, 3) := by decide +kernel
theorem dX3_goes_25 : decode cX3_goes 25 = .ok (.ifCond .ne 7, 3) := by decide +kernel
theorem dX3_goes_28 : decode cX3_goes 28 = .ok (.iconst 1, 1) := by decide +kernel
theorem dX3_goes_29 : decode cX3_goes 29 = .ok (.goto 4, 3) := by decide +kernel
theorem dX3_goes_32 : decode cX3_goes 32 = .ok (.iconst 0, 1) := by decide +kernel
theorem dX3_goes_33 : decode cX3_goes 33 = .ok (.ireturn, 1) := by decide +kernel
theorem dX3_in_0 : decode cX3_in 0 = .ok (.iload_n 0, 1) := by decide +kernel
theorem dX3_in_1 : decode cX3_in 1 = .ok (.iload_n 1, 1) := by decide +kernel
theorem dX3_in_2 : decode cX3_in 2 = .ok (.if_icmp .lt 12, 3) := by decide +kernel
theorem dX3_in_5 : decode cX3_in 5 = .ok (.iload_n 0, 1) := by decide +kernel
theorem dX3_in_6 : decode cX3_in 6 = .ok (.iload_n 2, 1) := by decide +kernel
theorem dX3_in_7 : decode cX3_in 7 = .ok (.if_icmp .gt 7, 3) := by decide +kernel
theorem dX3_in_10 : decode cX3_in 10 = .ok (.iconst 1, 1) := by decide +kernel
theorem dX3_in_11 : decode cX3_in 11 = .ok (.goto 4, 3) := by decide +kernel
theorem dX3_in_14 : decode cX3_in 14 = .ok (.iconst 0, 1) := by decide +kernel
theorem dX3_in_15 : decode cX3_in 15 = .ok (.ireturn, 1) := by decide +kernel
theorem dX3_isNode_0 : decode cX3_isNode 0 = .ok (.iload_n 0, 1) := by decide +kernel
theorem dX3_isNode_1 : decode cX3_isNode 1 = .ok (.iconst 0, 1) := by decide +kernel
theorem dX3_isNode_2 : decode cX3_isNode 2 = .ok (.bipush 7, 2) := by decide +kernel
theorem dX3_isNode_4 : decode cX3_isNode 4 = .ok (.invokestatic 84, 3) := by decide +kernel
theorem dX3_isNode_7 : decode cX3_isNode 7 = .ok (.ireturn, 1) := by decide +kernel
theorem dX3_haveLink_0 : decode cX3_haveLink 0 = .ok (.iload_n 1, 1) := by decide +kernel
theorem dX3_haveLink_1 : decode cX3_haveLink 1 = .ok (.invokestatic 88, 3) := by decide +kernel
theorem dX3_haveLink_4 : decode cX3_haveLink 4 = .ok (.ifCond .eq 28, 3) := by decide +kernel
theorem dX3_haveLink_7 : decode cX3_haveLink 7 = .ok (.iload_n 2, 1) := by decide +kernel
theorem dX3_haveLink_8 : decode cX3_haveLink 8 = .ok (.invokestatic 88, 3) := by decide +kernel
theorem dX3_haveLink_11 : decode cX3_haveLink 11 = .ok (.ifCond .eq 21, 3) := by decide +kernel
theorem dX3_haveLink_14 : decode cX3_haveLink 14 = .ok (.aload_n 0, 1) := by decide +kernel
theorem dX3_haveLink_15 : decode cX3_haveLink 15 = .ok (.getfield 17, 3) := by decide +kernel
theorem dX3_haveLink_18 : decode cX3_haveLink 18 = .ok (.bipush 8, 2) := by decide +kernel
theorem dX3_haveLink_20 : decode cX3_haveLink 20 = .ok (.iload_n 1, 1) := by decide +kernel
theorem dX3_haveLink_21 : decode cX3_haveLink 21 = .ok (.imul, 1) := by decide +kernel
theorem dX3_haveLink_22 : decode cX3_haveLink 22 = .ok (.iload_n 2, 1) := by decide +kernel
theorem dX3_haveLink_23 : decode cX3_haveLink 23 = .ok (.iadd, 1) := by decide +kernel
theorem dX3_haveLink_24 : decode cX3_haveLink 24 = .ok (.baload, 1) := by decide +kernel
theorem dX3_haveLink_25 : decode cX3_haveLink 25 = .ok (.ifCond .eq 7, 3) := by decide +kernel
theorem dX3_haveLink_28 : decode cX3_haveLink 28 = .ok (.iconst 1, 1) := by decide +kernel
theorem dX3_haveLink_29 : decode cX3_haveLink 29 = .ok (.goto 4, 3) := by decide +kernel
theorem dX3_haveLink_32 : decode cX3_haveLink 32 = .ok (.iconst 0, 1) := by decide +kernel
theorem dX3_haveLink_33 : decode cX3_haveLink 33 = .ok (.ireturn, 1) := by decide +kernel
theorem dX3_carries_0 : decode cX3_carries 0 = .ok (.aload_n 0, 1) := by decide +kernel
theorem dX3_carries_1 : decode cX3_carries 1 = .ok (.getfield 17, 3) := by decide +kernel
theorem dX3_carries_4 : decode cX3_carries 4 = .ok (.bipush 8, 2) := by decide +kernel
theorem dX3_carries_6 : decode cX3_carries 6 = .ok (.iload_n 1, 1) := by decide +kernel
theorem dX3_carries_7 : decode cX3_carries 7 = .ok (.imul, 1) := by decide +kernel
theorem dX3_carries_8 : decode cX3_carries 8 = .ok (.iload_n 2, 1) := by decide +kernel
theorem dX3_carries_9 : decode cX3_carries 9 = .ok (.iadd, 1) := by decide +kernel
theorem dX3_carries_10 : decode cX3_carries 10 = .ok (.baload, 1) := by decide +kernel
theorem dX3_carries_11 : decode cX3_carries 11 = .ok (.ifCond .eq 39, 3) := by decide +kernel
theorem dX3_carries_14 : decode cX3_carries 14 = .ok (.aload_n 0, 1) := by decide +kernel
theorem dX3_carries_15 : decode cX3_carries 15 = .ok (.getfield 26, 3) := by decide +kernel
theorem dX3_carries_18 : decode cX3_carries 18 = .ok (.bipush 8, 2) := by decide +kernel
theorem dX3_carries_20 : decode cX3_carries 20 = .ok (.iload_n 1, 1) := by decide +kernel
theorem dX3_carries_21 : decode cX3_carries 21 = .ok (.imul, 1) := by decide +kernel
theorem dX3_carries_22 : decode cX3_carries 22 = .ok (.iload_n 2, 1) := by decide +kernel
theorem dX3_carries_23 : decode cX3_carries 23 = .ok (.iadd, 1) := by decide +kernel
theorem dX3_carries_24 : decode cX3_carries 24 = .ok (.baload, 1) := by decide +kernel
theorem dX3_carries_25 : decode cX3_carries 25 = .ok (.ifCond .eq 25, 3) := by decide +kernel
theorem dX3_carries_28 : decode cX3_carries 28 = .ok (.aload_n 0, 1) := by decide +kernel
theorem dX3_carries_29 : decode cX3_carries 29 = .ok (.getfield 7, 3) := by decide +kernel
theorem dX3_carries_32 : decode cX3_carries 32 = .ok (.iload_n 1, 1) := by decide +kernel
theorem dX3_carries_33 : decode cX3_carries 33 = .ok (.baload, 1) := by decide +kernel
theorem dX3_carries_34 : decode cX3_carries 34 = .ok (.ifCond .eq 16, 3) := by decide +kernel
theorem dX3_carries_37 : decode cX3_carries 37 = .ok (.aload_n 0, 1) := by decide +kernel
theorem dX3_carries_38 : decode cX3_carries 38 = .ok (.getfield 7, 3) := by decide +kernel
theorem dX3_carries_41 : decode cX3_carries 41 = .ok (.iload_n 2, 1) := by decide +kernel
theorem dX3_carries_42 : decode cX3_carries 42 = .ok (.baload, 1) := by decide +kernel
theorem dX3_carries_43 : decode cX3_carries 43 = .ok (.ifCond .eq 7, 3) := by decide +kernel
theorem dX3_carries_46 : decode cX3_carries 46 = .ok (.iconst 1, 1) := by decide +kernel
theorem dX3_carries_47 : decode cX3_carries 47 = .ok (.goto 4, 3) := by decide +kernel
theorem dX3_carries_50 : decode cX3_carries 50 = .ok (.iconst 0, 1) := by decide +kernel
theorem dX3_carries_51 : decode cX3_carries 51 = .ok (.ireturn, 1) := by decide +kernel
theorem dX3_pass_0 : decode cX3_pass 0 = .ok (.bipush 8, 2) := by decide +kernel
theorem dX3_pass_2 : decode cX3_pass 2 = .ok (.iload_n 1, 1) := by decide +kernel
theorem dX3_pass_3 : decode cX3_pass 3 = .ok (.imul, 1) := by decide +kernel
theorem dX3_pass_4 : decode cX3_pass 4 = .ok (.iload_n 3, 1) := by decide +kernel
theorem dX3_pass_5 : decode cX3_pass 5 = .ok (.iadd, 1) := by decide +kernel
theorem dX3_pass_6 : decode cX3_pass 6 = .ok (.istore 4, 2) := by decide +kernel
theorem dX3_pass_8 : decode cX3_pass 8 = .ok (.bipush 64, 2) := by decide +kernel
theorem dX3_pass_10 : decode cX3_pass 10 = .ok (.iload_n 1, 1) := by decide +kernel
theorem dX3_pass_11 : decode cX3_pass 11 = .ok (.imul, 1) := by decide +kernel
theorem dX3_pass_12 : decode cX3_pass 12 = .ok (.bipush 8, 2) := by decide +kernel
theorem dX3_pass_14 : decode cX3_pass 14 = .ok (.iload_n 2, 1) := by decide +kernel
theorem dX3_pass_15 : decode cX3_pass 15 = .ok (.imul, 1) := by decide +kernel
theorem dX3_pass_16 : decode cX3_pass 16 = .ok (.iadd, 1) := by decide +kernel
theorem dX3_pass_17 : decode cX3_pass 17 = .ok (.iload_n 3, 1) := by decide +kernel
theorem dX3_pass_18 : decode cX3_pass 18 = .ok (.iadd, 1) := by decide +kernel
theorem dX3_pass_19 : decode cX3_pass 19 = .ok (.istore 5, 2) := by decide +kernel
theorem dX3_pass_21 : decode cX3_pass 21 = .ok (.aload_n 0, 1) := by decide +kernel
theorem dX3_pass_22 : decode cX3_pass 22 = .ok (.getfield 29, 3) := by decide +kernel
theorem dX3_pass_25 : decode cX3_pass 25 = .ok (.iload 4, 2) := by decide +kernel
theorem dX3_pass_27 : decode cX3_pass 27 = .ok (.iaload, 1) := by decide +kernel
theorem dX3_pass_28 : decode cX3_pass 28 = .ok (.ifCond .eq 29, 3) := by decide +kernel
theorem dX3_pass_31 : decode cX3_pass 31 = .ok (.aload_n 0, 1) := by decide +kernel
theorem dX3_pass_32 : decode cX3_pass 32 = .ok (.iload_n 1, 1) := by decide +kernel
theorem dX3_pass_33 : decode cX3_pass 33 = .ok (.iload_n 2, 1) := by decide +kernel
theorem dX3_pass_34 : decode cX3_pass 34 = .ok (.invokevirtual 92, 3) := by decide +kernel
theorem dX3_pass_37 : decode cX3_pass 37 = .ok (.ifCond .eq 20, 3) := by decide +kernel
theorem dX3_pass_40 : decode cX3_pass 40 = .ok (.aload_n 0, 1) := by decide +kernel
theorem dX3_pass_41 : decode cX3_pass 41 = .ok (.getfield 38, 3) := by decide +kernel
theorem dX3_pass_44 : decode cX3_pass 44 = .ok (.iload 5, 2) := by decide +kernel
theorem dX3_pass_46 : decode cX3_pass 46 = .ok (.iaload, 1) := by decide +kernel
theorem dX3_pass_47 : decode cX3_pass 47 = .ok (.aload_n 0, 1) := by decide +kernel
theorem dX3_pass_48 : decode cX3_pass 48 = .ok (.getfield 29, 3) := by decide +kernel
theorem dX3_pass_51 : decode cX3_pass 51 = .ok (.iload 4, 2) := by decide +kernel
theorem dX3_pass_53 : decode cX3_pass 53 = .ok (.iaload, 1) := by decide +kernel
theorem dX3_pass_54 : decode cX3_pass 54 = .ok (.if_icmp .lt 4, 3) := by decide +kernel
theorem dX3_pass_57 : decode cX3_pass 57 = .ok (.return_, 1) := by decide +kernel
theorem dX3_pass_58 : decode cX3_pass 58 = .ok (.aload_n 0, 1) := by decide +kernel
theorem dX3_pass_59 : decode cX3_pass 59 = .ok (.getfield 38, 3) := by decide +kernel
theorem dX3_pass_62 : decode cX3_pass 62 = .ok (.iload 5, 2) := by decide +kernel
theorem dX3_pass_64 : decode cX3_pass 64 = .ok (.aload_n 0, 1) := by decide +kernel
theorem dX3_pass_65 : decode cX3_pass 65 = .ok (.getfield 29, 3) := by decide +kernel
theorem dX3_pass_68 : decode cX3_pass 68 = .ok (.iload 4, 2) := by decide +kernel
theorem dX3_pass_70 : decode cX3_pass 70 = .ok (.iaload, 1) := by decide +kernel
theorem dX3_pass_71 : decode cX3_pass 71 = .ok (.iastore, 1) := by decide +kernel
theorem dX3_pass_72 : decode cX3_pass 72 = .ok (.aload_n 0, 1) := by decide +kernel
theorem dX3_pass_73 : decode cX3_pass 73 = .ok (.getfield 41, 3) := by decide +kernel
theorem dX3_pass_76 : decode cX3_pass 76 = .ok (.iload 5, 2) := by decide +kernel
theorem dX3_pass_78 : decode cX3_pass 78 = .ok (.aload_n 0, 1) := by decide +kernel
theorem dX3_pass_79 : decode cX3_pass 79 = .ok (.getfield 32, 3) := by decide +kernel
theorem dX3_pass_82 : decode cX3_pass 82 = .ok (.iload 4, 2) := by decide +kernel
theorem dX3_pass_84 : decode cX3_pass 84 = .ok (.iaload, 1) := by decide +kernel
theorem dX3_pass_85 : decode cX3_pass 85 = .ok (.iastore, 1) := by decide +kernel
theorem dX3_pass_86 : decode cX3_pass 86 = .ok (.aload_n 0, 1) := by decide +kernel
theorem dX3_pass_87 : decode cX3_pass 87 = .ok (.getfield 44, 3) := by decide +kernel
theorem dX3_pass_90 : decode cX3_pass 90 = .ok (.iload 5, 2) := by decide +kernel
theorem dX3_pass_92 : decode cX3_pass 92 = .ok (.aload_n 0, 1) := by decide +kernel
theorem dX3_pass_93 : decode cX3_pass 93 = .ok (.getfield 96, 3) := by decide +kernel
theorem dX3_pass_96 : decode cX3_pass 96 = .ok (.aload_n 0, 1) := by decide +kernel
theorem dX3_pass_97 : decode cX3_pass 97 = .ok (.getfield 23, 3) := by decide +kernel
theorem dX3_pass_100 : decode cX3_pass 100 = .ok (.bipush 8, 2) := by decide +kernel
theorem dX3_pass_102 : decode cX3_pass 102 = .ok (.iload_n 1, 1) := by decide +kernel
theorem dX3_pass_103 : decode cX3_pass 103 = .ok (.imul, 1) := by decide +kernel
theorem dX3_pass_104 : decode cX3_pass 104 = .ok (.iload_n 2, 1) := by decide +kernel
theorem dX3_pass_105 : decode cX3_pass 105 = .ok (.iadd, 1) := by decide +kernel
theorem dX3_pass_106 : decode cX3_pass 106 = .ok (.iaload, 1) := by decide +kernel
theorem dX3_pass_107 : decode cX3_pass 107 = .ok (.iadd, 1) := by decide +kernel
theorem dX3_pass_108 : decode cX3_pass 108 = .ok (.iastore, 1) := by decide +kernel
theorem dX3_pass_109 : decode cX3_pass 109 = .ok (.iconst 0, 1) := by decide +kernel
theorem dX3_pass_110 : decode cX3_pass 110 = .ok (.istore 6, 2) := by decide +kernel
theorem dX3_pass_112 : decode cX3_pass 112 = .ok (.iload 6, 2) := by decide +kernel
theorem dX3_pass_114 : decode cX3_pass 114 = .ok (.bipush 8, 2) := by decide +kernel
theorem dX3_pass_116 : decode cX3_pass 116 = .ok (.if_icmp .ge 35, 3) := by decide +kernel
theorem dX3_pass_119 : decode cX3_pass 119 = .ok (.aload_n 0, 1) := by decide +kernel
theorem dX3_pass_120 : decode cX3_pass 120 = .ok (.getfield 47, 3) := by decide +kernel
theorem dX3_pass_123 : decode cX3_pass 123 = .ok (.bipush 8, 2) := by decide +kernel
theorem dX3_pass_125 : decode cX3_pass 125 = .ok (.iload 5, 2) := by decide +kernel
theorem dX3_pass_127 : decode cX3_pass 127 = .ok (.imul, 1) := by decide +kernel
theorem dX3_pass_128 : decode cX3_pass 128 = .ok (.iload 6, 2) := by decide +kernel
theorem dX3_pass_130 : decode cX3_pass 130 = .ok (.iadd, 1) := by decide +kernel
theorem dX3_pass_131 : decode cX3_pass 131 = .ok (.aload_n 0, 1) := by decide +kernel
theorem dX3_pass_132 : decode cX3_pass 132 = .ok (.getfield 35, 3) := by decide +kernel
theorem dX3_pass_135 : decode cX3_pass 135 = .ok (.bipush 8, 2) := by decide +kernel
theorem dX3_pass_137 : decode cX3_pass 137 = .ok (.iload 4, 2) := by decide +kernel
theorem dX3_pass_139 : decode cX3_pass 139 = .ok (.imul, 1) := by decide +kernel
theorem dX3_pass_140 : decode cX3_pass 140 = .ok (.iload 6, 2) := by decide +kernel
theorem dX3_pass_142 : decode cX3_pass 142 = .ok (.iadd, 1) := by decide +kernel
theorem dX3_pass_143 : decode cX3_pass 143 = .ok (.iaload, 1) := by decide +kernel
theorem dX3_pass_144 : decode cX3_pass 144 = .ok (.iastore, 1) := by decide +kernel
theorem dX3_pass_145 : decode cX3_pass 145 = .ok (.iinc 6 1, 3) := by decide +kernel
theorem dX3_pass_148 : decode cX3_pass 148 = .ok (.goto (-36), 3) := by decide +kernel
theorem dX3_pass_151 : decode cX3_pass 151 = .ok (.return_, 1) := by decide +kernel
theorem dX3_tell_0 : decode cX3_tell 0 = .ok (.aload_n 0, 1) := by decide +kernel
theorem dX3_tell_1 : decode cX3_tell 1 = .ok (.getfield 13, 3) := by decide +kernel
theorem dX3_tell_4 : decode cX3_tell 4 = .ok (.iload_n 1, 1) := by decide +kernel
theorem dX3_tell_5 : decode cX3_tell 5 = .ok (.dup2, 1) := by decide +kernel
theorem dX3_tell_6 : decode cX3_tell 6 = .ok (.iaload, 1) := by decide +kernel
theorem dX3_tell_7 : decode cX3_tell 7 = .ok (.iconst 1, 1) := by decide +kernel
theorem dX3_tell_8 : decode cX3_tell 8 = .ok (.iadd, 1) := by decide +kernel
theorem dX3_tell_9 : decode cX3_tell 9 = .ok (.iastore, 1) := by decide +kernel
theorem dX3_tell_10 : decode cX3_tell 10 = .ok (.bipush 8, 2) := by decide +kernel
theorem dX3_tell_12 : decode cX3_tell 12 = .ok (.iload_n 1, 1) := by decide +kernel
theorem dX3_tell_13 : decode cX3_tell 13 = .ok (.imul, 1) := by decide +kernel
theorem dX3_tell_14 : decode cX3_tell 14 = .ok (.iload_n 1, 1) := by decide +kernel
theorem dX3_tell_15 : decode cX3_tell 15 = .ok (.iadd, 1) := by decide +kernel
theorem dX3_tell_16 : decode cX3_tell 16 = .ok (.istore_n 2, 1) := by decide +kernel
theorem dX3_tell_17 : decode cX3_tell 17 = .ok (.aload_n 0, 1) := by decide +kernel
theorem dX3_tell_18 : decode cX3_tell 18 = .ok (.getfield 29, 3) := by decide +kernel
theorem dX3_tell_21 : decode cX3_tell 21 = .ok (.iload_n 2, 1) := by decide +kernel
theorem dX3_tell_22 : decode cX3_tell 22 = .ok (.aload_n 0, 1) := by decide +kernel
theorem dX3_tell_23 : decode cX3_tell 23 = .ok (.getfield 13, 3) := by decide +kernel
theorem dX3_tell_26 : decode cX3_tell 26 = .ok (.iload_n 1, 1) := by decide +kernel
theorem dX3_tell_27 : decode cX3_tell 27 = .ok (.iaload, 1) := by decide +kernel
theorem dX3_tell_28 : decode cX3_tell 28 = .ok (.iastore, 1) := by decide +kernel
theorem dX3_tell_29 : decode cX3_tell 29 = .ok (.aload_n 0, 1) := by decide +kernel
theorem dX3_tell_30 : decode cX3_tell 30 = .ok (.getfield 32, 3) := by decide +kernel
theorem dX3_tell_33 : decode cX3_tell 33 = .ok (.iload_n 2, 1) := by decide +kernel
theorem dX3_tell_34 : decode cX3_tell 34 = .ok (.iconst 0, 1) := by decide +kernel
theorem dX3_tell_35 : decode cX3_tell 35 = .ok (.iastore, 1) := by decide +kernel
theorem dX3_tell_36 : decode cX3_tell 36 = .ok (.iconst 0, 1) := by decide +kernel
theorem dX3_tell_37 : decode cX3_tell 37 = .ok (.istore_n 3, 1) := by decide +kernel
theorem dX3_tell_38 : decode cX3_tell 38 = .ok (.iload_n 3, 1) := by decide +kernel
theorem dX3_tell_39 : decode cX3_tell 39 = .ok (.bipush 8, 2) := by decide +kernel
theorem dX3_tell_41 : decode cX3_tell 41 = .ok (.if_icmp .ge 44, 3) := by decide +kernel
theorem dX3_tell_44 : decode cX3_tell 44 = .ok (.aload_n 0, 1) := by decide +kernel
theorem dX3_tell_45 : decode cX3_tell 45 = .ok (.getfield 35, 3) := by decide +kernel
theorem dX3_tell_48 : decode cX3_tell 48 = .ok (.bipush 8, 2) := by decide +kernel
theorem dX3_tell_50 : decode cX3_tell 50 = .ok (.iload_n 2, 1) := by decide +kernel
theorem dX3_tell_51 : decode cX3_tell 51 = .ok (.imul, 1) := by decide +kernel
theorem dX3_tell_52 : decode cX3_tell 52 = .ok (.iload_n 3, 1) := by decide +kernel
theorem dX3_tell_53 : decode cX3_tell 53 = .ok (.iadd, 1) := by decide +kernel
theorem dX3_tell_54 : decode cX3_tell 54 = .ok (.aload_n 0, 1) := by decide +kernel
theorem dX3_tell_55 : decode cX3_tell 55 = .ok (.iload_n 1, 1) := by decide +kernel
theorem dX3_tell_56 : decode cX3_tell 56 = .ok (.iload_n 3, 1) := by decide +kernel
theorem dX3_tell_57 : decode cX3_tell 57 = .ok (.invokevirtual 92, 3) := by decide +kernel
theorem dX3_tell_60 : decode cX3_tell 60 = .ok (.ifCond .eq 17, 3) := by decide +kernel
theorem dX3_tell_63 : decode cX3_tell 63 = .ok (.aload_n 0, 1) := by decide +kernel
theorem dX3_tell_64 : decode cX3_tell 64 = .ok (.getfield 20, 3) := by decide +kernel
theorem dX3_tell_67 : decode cX3_tell 67 = .ok (.bipush 8, 2) := by decide +kernel
theorem dX3_tell_69 : decode cX3_tell 69 = .ok (.iload_n 1, 1) := by decide +kernel
theorem dX3_tell_70 : decode cX3_tell 70 = .ok (.imul, 1) := by decide +kernel
theorem dX3_tell_71 : decode cX3_tell 71 = .ok (.iload_n 3, 1) := by decide +kernel
theorem dX3_tell_72 : decode cX3_tell 72 = .ok (.iadd, 1) := by decide +kernel
theorem dX3_tell_73 : decode cX3_tell 73 = .ok (.iaload, 1) := by decide +kernel
theorem dX3_tell_74 : decode cX3_tell 74 = .ok (.goto 4, 3) := by decide +kernel
theorem dX3_tell_77 : decode cX3_tell 77 = .ok (.iconst 0, 1) := by decide +kernel
theorem dX3_tell_78 : decode cX3_tell 78 = .ok (.iastore, 1) := by decide +kernel
theorem dX3_tell_79 : decode cX3_tell 79 = .ok (.iinc 3 1, 3) := by decide +kernel
theorem dX3_tell_82 : decode cX3_tell 82 = .ok (.goto (-44), 3) := by decide +kernel
theorem dX3_tell_85 : decode cX3_tell 85 = .ok (.iconst 0, 1) := by decide +kernel
theorem dX3_tell_86 : decode cX3_tell 86 = .ok (.istore_n 3, 1) := by decide +kernel
theorem dX3_tell_87 : decode cX3_tell 87 = .ok (.iload_n 3, 1) := by decide +kernel
theorem dX3_tell_88 : decode cX3_tell 88 = .ok (.bipush 8, 2) := by decide +kernel
theorem dX3_tell_90 : decode cX3_tell 90 = .ok (.if_icmp .ge 16, 3) := by decide +kernel
theorem dX3_tell_93 : decode cX3_tell 93 = .ok (.aload_n 0, 1) := by decide +kernel
theorem dX3_tell_94 : decode cX3_tell 94 = .ok (.iload_n 1, 1) := by decide +kernel
theorem dX3_tell_95 : decode cX3_tell 95 = .ok (.iload_n 3, 1) := by decide +kernel
theorem dX3_tell_96 : decode cX3_tell 96 = .ok (.iload_n 1, 1) := by decide +kernel
theorem dX3_tell_97 : decode cX3_tell 97 = .ok (.invokevirtual 99, 3) := by decide +kernel
theorem dX3_tell_100 : decode cX3_tell 100 = .ok (.iinc 3 1, 3) := by decide +kernel
theorem dX3_tell_103 : decode cX3_tell 103 = .ok (.goto (-16), 3) := by decide +kernel
theorem dX3_tell_106 : decode cX3_tell 106 = .ok (.return_, 1) := by decide +kernel
theorem dX3_sendAll_0 : decode cX3_sendAll 0 = .ok (.iconst 0, 1) := by decide +kernel
theorem dX3_sendAll_1 : decode cX3_sendAll 1 = .ok (.istore_n 3, 1) := by decide +kernel
theorem dX3_sendAll_2 : decode cX3_sendAll 2 = .ok (.iload_n 3, 1) := by decide +kernel
theorem dX3_sendAll_3 : decode cX3_sendAll 3 = .ok (.bipush 8, 2) := by decide +kernel
theorem dX3_sendAll_5 : decode cX3_sendAll 5 = .ok (.if_icmp .ge 16, 3) := by decide +kernel
theorem dX3_sendAll_8 : decode cX3_sendAll 8 = .ok (.aload_n 0, 1) := by decide +kernel
theorem dX3_sendAll_9 : decode cX3_sendAll 9 = .ok (.iload_n 1, 1) := by decide +kernel
theorem dX3_sendAll_10 : decode cX3_sendAll 10 = .ok (.iload_n 2, 1) := by decide +kernel
theorem dX3_sendAll_11 : decode cX3_sendAll 11 = .ok (.iload_n 3, 1) := by decide +kernel
theorem dX3_sendAll_12 : decode cX3_sendAll 12 = .ok (.invokevirtual 99, 3) := by decide +kernel
theorem dX3_sendAll_15 : decode cX3_sendAll 15 = .ok (.iinc 3 1, 3) := by decide +kernel
theorem dX3_sendAll_18 : decode cX3_sendAll 18 = .ok (.goto (-16), 3) := by decide +kernel
theorem dX3_sendAll_21 : decode cX3_sendAll 21 = .ok (.return_, 1) := by decide +kernel
theorem dX3_receive_0 : decode cX3_receive 0 = .ok (.bipush 64, 2) := by decide +kernel
theorem dX3_receive_2 : decode cX3_receive 2 = .ok (.iload_n 1, 1) := by decide +kernel
theorem dX3_receive_3 : decode cX3_receive 3 = .ok (.imul, 1) := by decide +kernel
theorem dX3_receive_4 : decode cX3_receive 4 = .ok (.bipush 8, 2) := by decide +kernel
theorem dX3_receive_6 : decode cX3_receive 6 = .ok (.iload_n 2, 1) := by decide +kernel
theorem dX3_receive_7 : decode cX3_receive 7 = .ok (.imul, 1) := by decide +kernel
theorem dX3_receive_8 : decode cX3_receive 8 = .ok (.iadd, 1) := by decide +kernel
theorem dX3_receive_9 : decode cX3_receive 9 = .ok (.iload_n 3, 1) := by decide +kernel
theorem dX3_receive_10 : decode cX3_receive 10 = .ok (.iadd, 1) := by decide +kernel
theorem dX3_receive_11 : decode cX3_receive 11 = .ok (.istore 4, 2) := by decide +kernel
theorem dX3_receive_13 : decode cX3_receive 13 = .ok (.bipush 8, 2) := by decide +kernel
theorem dX3_receive_15 : decode cX3_receive 15 = .ok (.iload_n 2, 1) := by decide +kernel
theorem dX3_receive_16 : decode cX3_receive 16 = .ok (.imul, 1) := by decide +kernel
theorem dX3_receive_17 : decode cX3_receive 17 = .ok (.iload_n 3, 1) := by decide +kernel
theorem dX3_receive_18 : decode cX3_receive 18 = .ok (.iadd, 1) := by decide +kernel
theorem dX3_receive_19 : decode cX3_receive 19 = .ok (.istore 5, 2) := by decide +kernel
theorem dX3_receive_21 : decode cX3_receive 21 = .ok (.aload_n 0, 1) := by decide +kernel
theorem dX3_receive_22 : decode cX3_receive 22 = .ok (.getfield 38, 3) := by decide +kernel
theorem dX3_receive_25 : decode cX3_receive 25 = .ok (.iload 4, 2) := by decide +kernel
theorem dX3_receive_27 : decode cX3_receive 27 = .ok (.iaload, 1) := by decide +kernel
theorem dX3_receive_28 : decode cX3_receive 28 = .ok (.istore 6, 2) := by decide +kernel
theorem dX3_receive_30 : decode cX3_receive 30 = .ok (.aload_n 0, 1) := by decide +kernel
theorem dX3_receive_31 : decode cX3_receive 31 = .ok (.getfield 38, 3) := by decide +kernel
theorem dX3_receive_34 : decode cX3_receive 34 = .ok (.iload 4, 2) := by decide +kernel
theorem dX3_receive_36 : decode cX3_receive 36 = .ok (.iconst 0, 1) := by decide +kernel
theorem dX3_receive_37 : decode cX3_receive 37 = .ok (.iastore, 1) := by decide +kernel
theorem dX3_receive_38 : decode cX3_receive 38 = .ok (.iload_n 3, 1) := by decide +kernel
theorem dX3_receive_39 : decode cX3_receive 39 = .ok (.iload_n 2, 1) := by decide +kernel
theorem dX3_receive_40 : decode cX3_receive 40 = .ok (.if_icmp .ne 30, 3) := by decide +kernel
theorem dX3_receive_43 : decode cX3_receive 43 = .ok (.iload 6, 2) := by decide +kernel
theorem dX3_receive_45 : decode cX3_receive 45 = .ok (.aload_n 0, 1) := by decide +kernel
theorem dX3_receive_46 : decode cX3_receive 46 = .ok (.getfield 13, 3) := by decide +kernel
theorem dX3_receive_49 : decode cX3_receive 49 = .ok (.iload_n 2, 1) := by decide +kernel
theorem dX3_receive_50 : decode cX3_receive 50 = .ok (.iaload, 1) := by decide +kernel
theorem dX3_receive_51 : decode cX3_receive 51 = .ok (.if_icmp .le 148, 3) := by decide +kernel
theorem dX3_receive_54 : decode cX3_receive 54 = .ok (.aload_n 0, 1) := by decide +kernel
theorem dX3_receive_55 : decode cX3_receive 55 = .ok (.getfield 13, 3) := by decide +kernel
theorem dX3_receive_58 : decode cX3_receive 58 = .ok (.iload_n 2, 1) := by decide +kernel
theorem dX3_receive_59 : decode cX3_receive 59 = .ok (.iload 6, 2) := by decide +kernel
theorem dX3_receive_61 : decode cX3_receive 61 = .ok (.iastore, 1) := by decide +kernel
theorem dX3_receive_62 : decode cX3_receive 62 = .ok (.aload_n 0, 1) := by decide +kernel
theorem dX3_receive_63 : decode cX3_receive 63 = .ok (.iload_n 2, 1) := by decide +kernel
theorem dX3_receive_64 : decode cX3_receive 64 = .ok (.invokevirtual 103, 3) := by decide +kernel
theorem dX3_receive_67 : decode cX3_receive 67 = .ok (.goto 132, 3) := by decide +kernel
theorem dX3_receive_70 : decode cX3_receive 70 = .ok (.aload_n 0, 1) := by decide +kernel
theorem dX3_receive_71 : decode cX3_receive 71 = .ok (.getfield 29, 3) := by decide +kernel
theorem dX3_receive_74 : decode cX3_receive 74 = .ok (.iload 5, 2) := by decide +kernel
theorem dX3_receive_76 : decode cX3_receive 76 = .ok (.iaload, 1) := by decide +kernel
theorem dX3_receive_77 : decode cX3_receive 77 = .ok (.iload 6, 2) := by decide +kernel
theorem dX3_receive_79 : decode cX3_receive 79 = .ok (.if_icmp .ge 101, 3) := by decide +kernel
theorem dX3_receive_82 : decode cX3_receive 82 = .ok (.aload_n 0, 1) := by decide +kernel
theorem dX3_receive_83 : decode cX3_receive 83 = .ok (.getfield 29, 3) := by decide +kernel
theorem dX3_receive_86 : decode cX3_receive 86 = .ok (.iload 5, 2) := by decide +kernel
theorem dX3_receive_88 : decode cX3_receive 88 = .ok (.iload 6, 2) := by decide +kernel
theorem dX3_receive_90 : decode cX3_receive 90 = .ok (.iastore, 1) := by decide +kernel
theorem dX3_receive_91 : decode cX3_receive 91 = .ok (.aload_n 0, 1) := by decide +kernel
theorem dX3_receive_92 : decode cX3_receive 92 = .ok (.getfield 32, 3) := by decide +kernel
theorem dX3_receive_95 : decode cX3_receive 95 = .ok (.iload 5, 2) := by decide +kernel
theorem dX3_receive_97 : decode cX3_receive 97 = .ok (.aload_n 0, 1) := by decide +kernel
theorem dX3_receive_98 : decode cX3_receive 98 = .ok (.getfield 41, 3) := by decide +kernel
theorem dX3_receive_101 : decode cX3_receive 101 = .ok (.iload 4, 2) := by decide +kernel
theorem dX3_receive_103 : decode cX3_receive 103 = .ok (.iaload, 1) := by decide +kernel
theorem dX3_receive_104 : decode cX3_receive 104 = .ok (.iastore, 1) := by decide +kernel
theorem dX3_receive_105 : decode cX3_receive 105 = .ok (.iconst 0, 1) := by decide +kernel
theorem dX3_receive_106 : decode cX3_receive 106 = .ok (.istore 7, 2) := by decide +kernel
theorem dX3_receive_108 : decode cX3_receive 108 = .ok (.iload 7, 2) := by decide +kernel
theorem dX3_receive_110 : decode cX3_receive 110 = .ok (.bipush 8, 2) := by decide +kernel
theorem dX3_receive_112 : decode cX3_receive 112 = .ok (.if_icmp .ge 35, 3) := by decide +kernel
theorem dX3_receive_115 : decode cX3_receive 115 = .ok (.aload_n 0, 1) := by decide +kernel
theorem dX3_receive_116 : decode cX3_receive 116 = .ok (.getfield 35, 3) := by decide +kernel
theorem dX3_receive_119 : decode cX3_receive 119 = .ok (.bipush 8, 2) := by decide +kernel
theorem dX3_receive_121 : decode cX3_receive 121 = .ok (.iload 5, 2) := by decide +kernel
theorem dX3_receive_123 : decode cX3_receive 123 = .ok (.imul, 1) := by decide +kernel
theorem dX3_receive_124 : decode cX3_receive 124 = .ok (.iload 7, 2) := by decide +kernel
theorem dX3_receive_126 : decode cX3_receive 126 = .ok (.iadd, 1) := by decide +kernel
theorem dX3_receive_127 : decode cX3_receive 127 = .ok (.aload_n 0, 1) := by decide +kernel
theorem dX3_receive_128 : decode cX3_receive 128 = .ok (.getfield 47, 3) := by decide +kernel
theorem dX3_receive_131 : decode cX3_receive 131 = .ok (.bipush 8, 2) := by decide +kernel
theorem dX3_receive_133 : decode cX3_receive 133 = .ok (.iload 4, 2) := by decide +kernel
theorem dX3_receive_135 : decode cX3_receive 135 = .ok (.imul, 1) := by decide +kernel
theorem dX3_receive_136 : decode cX3_receive 136 = .ok (.iload 7, 2) := by decide +kernel
theorem dX3_receive_138 : decode cX3_receive 138 = .ok (.iadd, 1) := by decide +kernel
theorem dX3_receive_139 : decode cX3_receive 139 = .ok (.iaload, 1) := by decide +kernel
theorem dX3_receive_140 : decode cX3_receive 140 = .ok (.iastore, 1) := by decide +kernel
theorem dX3_receive_141 : decode cX3_receive 141 = .ok (.iinc 7 1, 3) := by decide +kernel
theorem dX3_receive_144 : decode cX3_receive 144 = .ok (.goto (-36), 3) := by decide +kernel
theorem dX3_receive_147 : decode cX3_receive 147 = .ok (.iconst 0, 1) := by decide +kernel
theorem dX3_receive_148 : decode cX3_receive 148 = .ok (.istore 7, 2) := by decide +kernel
theorem dX3_receive_150 : decode cX3_receive 150 = .ok (.iload 7, 2) := by decide +kernel
theorem dX3_receive_152 : decode cX3_receive 152 = .ok (.bipush 8, 2) := by decide +kernel
theorem dX3_receive_154 : decode cX3_receive 154 = .ok (.if_icmp .ge 23, 3) := by decide +kernel
theorem dX3_receive_157 : decode cX3_receive 157 = .ok (.iload 7, 2) := by decide +kernel
theorem dX3_receive_159 : decode cX3_receive 159 = .ok (.iload_n 1, 1) := by decide +kernel
theorem dX3_receive_160 : decode cX3_receive 160 = .ok (.if_icmp .eq 11, 3) := by decide +kernel
theorem dX3_receive_163 : decode cX3_receive 163 = .ok (.aload_n 0, 1) := by decide +kernel
theorem dX3_receive_164 : decode cX3_receive 164 = .ok (.iload_n 2, 1) := by decide +kernel
theorem dX3_receive_165 : decode cX3_receive 165 = .ok (.iload 7, 2) := by decide +kernel
theorem dX3_receive_167 : decode cX3_receive 167 = .ok (.iload_n 3, 1) := by decide +kernel
theorem dX3_receive_168 : decode cX3_receive 168 = .ok (.invokevirtual 99, 3) := by decide +kernel
theorem dX3_receive_171 : decode cX3_receive 171 = .ok (.iinc 7 1, 3) := by decide +kernel
theorem dX3_receive_174 : decode cX3_receive 174 = .ok (.goto (-24), 3) := by decide +kernel
theorem dX3_receive_177 : decode cX3_receive 177 = .ok (.goto 22, 3) := by decide +kernel
theorem dX3_receive_180 : decode cX3_receive 180 = .ok (.aload_n 0, 1) := by decide +kernel
theorem dX3_receive_181 : decode cX3_receive 181 = .ok (.getfield 29, 3) := by decide +kernel
theorem dX3_receive_184 : decode cX3_receive 184 = .ok (.iload 5, 2) := by decide +kernel
theorem dX3_receive_186 : decode cX3_receive 186 = .ok (.iaload, 1) := by decide +kernel
theorem dX3_receive_187 : decode cX3_receive 187 = .ok (.iload 6, 2) := by decide +kernel
theorem dX3_receive_189 : decode cX3_receive 189 = .ok (.if_icmp .le 10, 3) := by decide +kernel
theorem dX3_receive_192 : decode cX3_receive 192 = .ok (.aload_n 0, 1) := by decide +kernel
theorem dX3_receive_193 : decode cX3_receive 193 = .ok (.iload_n 2, 1) := by decide +kernel
theorem dX3_receive_194 : decode cX3_receive 194 = .ok (.iload_n 1, 1) := by decide +kernel
theorem dX3_receive_195 : decode cX3_receive 195 = .ok (.iload_n 3, 1) := by decide +kernel
theorem dX3_receive_196 : decode cX3_receive 196 = .ok (.invokevirtual 99, 3) := by decide +kernel
theorem dX3_receive_199 : decode cX3_receive 199 = .ok (.return_, 1) := by decide +kernel
theorem dX3_cut_0 : decode cX3_cut 0 = .ok (.iconst 0, 1) := by decide +kernel
theorem dX3_cut_1 : decode cX3_cut 1 = .ok (.istore_n 3, 1) := by decide +kernel
theorem dX3_cut_2 : decode cX3_cut 2 = .ok (.iload_n 3, 1) := by decide +kernel
theorem dX3_cut_3 : decode cX3_cut 3 = .ok (.bipush 8, 2) := by decide +kernel
theorem dX3_cut_5 : decode cX3_cut 5 = .ok (.if_icmp .ge 43, 3) := by decide +kernel
theorem dX3_cut_8 : decode cX3_cut 8 = .ok (.aload_n 0, 1) := by decide +kernel
theorem dX3_cut_9 : decode cX3_cut 9 = .ok (.getfield 38, 3) := by decide +kernel
theorem dX3_cut_12 : decode cX3_cut 12 = .ok (.bipush 64, 2) := by decide +kernel
theorem dX3_cut_14 : decode cX3_cut 14 = .ok (.iload_n 1, 1) := by decide +kernel
theorem dX3_cut_15 : decode cX3_cut 15 = .ok (.imul, 1) := by decide +kernel
theorem dX3_cut_16 : decode cX3_cut 16 = .ok (.bipush 8, 2) := by decide +kernel
theorem dX3_cut_18 : decode cX3_cut 18 = .ok (.iload_n 2, 1) := by decide +kernel
theorem dX3_cut_19 : decode cX3_cut 19 = .ok (.imul, 1) := by decide +kernel
theorem dX3_cut_20 : decode cX3_cut 20 = .ok (.iadd, 1) := by decide +kernel
theorem dX3_cut_21 : decode cX3_cut 21 = .ok (.iload_n 3, 1) := by decide +kernel
theorem dX3_cut_22 : decode cX3_cut 22 = .ok (.iadd, 1) := by decide +kernel
theorem dX3_cut_23 : decode cX3_cut 23 = .ok (.iconst 0, 1) := by decide +kernel
theorem dX3_cut_24 : decode cX3_cut 24 = .ok (.iastore, 1) := by decide +kernel
theorem dX3_cut_25 : decode cX3_cut 25 = .ok (.aload_n 0, 1) := by decide +kernel
theorem dX3_cut_26 : decode cX3_cut 26 = .ok (.getfield 38, 3) := by decide +kernel
theorem dX3_cut_29 : decode cX3_cut 29 = .ok (.bipush 64, 2) := by decide +kernel
theorem dX3_cut_31 : decode cX3_cut 31 = .ok (.iload_n 2, 1) := by decide +kernel
theorem dX3_cut_32 : decode cX3_cut 32 = .ok (.imul, 1) := by decide +kernel
theorem dX3_cut_33 : decode cX3_cut 33 = .ok (.bipush 8, 2) := by decide +kernel
theorem dX3_cut_35 : decode cX3_cut 35 = .ok (.iload_n 1, 1) := by decide +kernel
theorem dX3_cut_36 : decode cX3_cut 36 = .ok (.imul, 1) := by decide +kernel
theorem dX3_cut_37 : decode cX3_cut 37 = .ok (.iadd, 1) := by decide +kernel
theorem dX3_cut_38 : decode cX3_cut 38 = .ok (.iload_n 3, 1) := by decide +kernel
theorem dX3_cut_39 : decode cX3_cut 39 = .ok (.iadd, 1) := by decide +kernel
theorem dX3_cut_40 : decode cX3_cut 40 = .ok (.iconst 0, 1) := by decide +kernel
theorem dX3_cut_41 : decode cX3_cut 41 = .ok (.iastore, 1) := by decide +kernel
theorem dX3_cut_42 : decode cX3_cut 42 = .ok (.iinc 3 1, 3) := by decide +kernel
theorem dX3_cut_45 : decode cX3_cut 45 = .ok (.goto (-43), 3) := by decide +kernel
theorem dX3_cut_48 : decode cX3_cut 48 = .ok (.iconst 0, 1) := by decide +kernel
theorem dX3_cut_49 : decode cX3_cut 49 = .ok (.istore_n 3, 1) := by decide +kernel
theorem dX3_cut_50 : decode cX3_cut 50 = .ok (.iload_n 3, 1) := by decide +kernel
theorem dX3_cut_51 : decode cX3_cut 51 = .ok (.aload_n 0, 1) := by decide +kernel
theorem dX3_cut_52 : decode cX3_cut 52 = .ok (.getfield 107, 3) := by decide +kernel
theorem dX3_cut_55 : decode cX3_cut 55 = .ok (.if_icmp .ge 86, 3) := by decide +kernel
theorem dX3_cut_58 : decode cX3_cut 58 = .ok (.aload_n 0, 1) := by decide +kernel
theorem dX3_cut_59 : decode cX3_cut 59 = .ok (.getfield 59, 3) := by decide +kernel
theorem dX3_cut_62 : decode cX3_cut 62 = .ok (.iload_n 3, 1) := by decide +kernel
theorem dX3_cut_63 : decode cX3_cut 63 = .ok (.iaload, 1) := by decide +kernel
theorem dX3_cut_64 : decode cX3_cut 64 = .ok (.iload_n 1, 1) := by decide +kernel
theorem dX3_cut_65 : decode cX3_cut 65 = .ok (.if_icmp .ne 13, 3) := by decide +kernel
theorem dX3_cut_68 : decode cX3_cut 68 = .ok (.aload_n 0, 1) := by decide +kernel
theorem dX3_cut_69 : decode cX3_cut 69 = .ok (.getfield 62, 3) := by decide +kernel
theorem dX3_cut_72 : decode cX3_cut 72 = .ok (.iload_n 3, 1) := by decide +kernel
theorem dX3_cut_73 : decode cX3_cut 73 = .ok (.iaload, 1) := by decide +kernel
theorem dX3_cut_74 : decode cX3_cut 74 = .ok (.iload_n 2, 1) := by decide +kernel
theorem dX3_cut_75 : decode cX3_cut 75 = .ok (.if_icmp .eq 23, 3) := by decide +kernel
theorem dX3_cut_78 : decode cX3_cut 78 = .ok (.aload_n 0, 1) := by decide +kernel
theorem dX3_cut_79 : decode cX3_cut 79 = .ok (.getfield 59, 3) := by decide +kernel
theorem dX3_cut_82 : decode cX3_cut 82 = .ok (.iload_n 3, 1) := by decide +kernel
theorem dX3_cut_83 : decode cX3_cut 83 = .ok (.iaload, 1) := by decide +kernel
theorem dX3_cut_84 : decode cX3_cut 84 = .ok (.iload_n 2, 1) := by decide +kernel
theorem dX3_cut_85 : decode cX3_cut 85 = .ok (.if_icmp .ne 17, 3) := by decide +kernel
theorem dX3_cut_88 : decode cX3_cut 88 = .ok (.aload_n 0, 1) := by decide +kernel
theorem dX3_cut_89 : decode cX3_cut 89 = .ok (.getfield 62, 3) := by decide +kernel
theorem dX3_cut_92 : decode cX3_cut 92 = .ok (.iload_n 3, 1) := by decide +kernel
theorem dX3_cut_93 : decode cX3_cut 93 = .ok (.iaload, 1) := by decide +kernel
theorem dX3_cut_94 : decode cX3_cut 94 = .ok (.iload_n 1, 1) := by decide +kernel
theorem dX3_cut_95 : decode cX3_cut 95 = .ok (.if_icmp .ne 7, 3) := by decide +kernel
theorem dX3_cut_98 : decode cX3_cut 98 = .ok (.iconst 1, 1) := by decide +kernel
theorem dX3_cut_99 : decode cX3_cut 99 = .ok (.goto 4, 3) := by decide +kernel
theorem dX3_cut_102 : decode cX3_cut 102 = .ok (.iconst 0, 1) := by decide +kernel
theorem dX3_cut_103 : decode cX3_cut 103 = .ok (.istore 4, 2) := by decide +kernel
theorem dX3_cut_105 : decode cX3_cut 105 = .ok (.aload_n 0, 1) := by decide +kernel
theorem dX3_cut_106 : decode cX3_cut 106 = .ok (.getfield 56, 3) := by decide +kernel
theorem dX3_cut_109 : decode cX3_cut 109 = .ok (.iload_n 3, 1) := by decide +kernel
theorem dX3_cut_110 : decode cX3_cut 110 = .ok (.aload_n 0, 1) := by decide +kernel
theorem dX3_cut_111 : decode cX3_cut 111 = .ok (.getfield 56, 3) := by decide +kernel
theorem dX3_cut_114 : decode cX3_cut 114 = .ok (.iload_n 3, 1) := by decide +kernel
theorem dX3_cut_115 : decode cX3_cut 115 = .ok (.iaload, 1) := by decide +kernel
theorem dX3_cut_116 : decode cX3_cut 116 = .ok (.ifCond .ne 12, 3) := by decide +kernel
theorem dX3_cut_119 : decode cX3_cut 119 = .ok (.iload 4, 2) := by decide +kernel
theorem dX3_cut_121 : decode cX3_cut 121 = .ok (.ifCond .eq 7, 3) := by decide +kernel
theorem dX3_cut_124 : decode cX3_cut 124 = .ok (.iconst 3, 1) := by decide +kernel
theorem dX3_cut_125 : decode cX3_cut 125 = .ok (.goto 9, 3) := by decide +kernel
theorem dX3_cut_128 : decode cX3_cut 128 = .ok (.aload_n 0, 1) := by decide +kernel
theorem dX3_cut_129 : decode cX3_cut 129 = .ok (.getfield 56, 3) := by decide +kernel
theorem dX3_cut_132 : decode cX3_cut 132 = .ok (.iload_n 3, 1) := by decide +kernel
theorem dX3_cut_133 : decode cX3_cut 133 = .ok (.iaload, 1) := by decide +kernel
theorem dX3_cut_134 : decode cX3_cut 134 = .ok (.iastore, 1) := by decide +kernel
theorem dX3_cut_135 : decode cX3_cut 135 = .ok (.iinc 3 1, 3) := by decide +kernel
theorem dX3_cut_138 : decode cX3_cut 138 = .ok (.goto (-88), 3) := by decide +kernel
theorem dX3_cut_141 : decode cX3_cut 141 = .ok (.return_, 1) := by decide +kernel
theorem dX3_comeUp_0 : decode cX3_comeUp 0 = .ok (.aload_n 0, 1) := by decide +kernel
theorem dX3_comeUp_1 : decode cX3_comeUp 1 = .ok (.getfield 26, 3) := by decide +kernel
theorem dX3_comeUp_4 : decode cX3_comeUp 4 = .ok (.bipush 8, 2) := by decide +kernel
theorem dX3_comeUp_6 : decode cX3_comeUp 6 = .ok (.iload_n 1, 1) := by decide +kernel
theorem dX3_comeUp_7 : decode cX3_comeUp 7 = .ok (.imul, 1) := by decide +kernel
theorem dX3_comeUp_8 : decode cX3_comeUp 8 = .ok (.iload_n 2, 1) := by decide +kernel
theorem dX3_comeUp_9 : decode cX3_comeUp 9 = .ok (.iadd, 1) := by decide +kernel
theorem dX3_comeUp_10 : decode cX3_comeUp 10 = .ok (.iconst 1, 1) := by decide +kernel
theorem dX3_comeUp_11 : decode cX3_comeUp 11 = .ok (.bastore, 1) := by decide +kernel
theorem dX3_comeUp_12 : decode cX3_comeUp 12 = .ok (.aload_n 0, 1) := by decide +kernel
theorem dX3_comeUp_13 : decode cX3_comeUp 13 = .ok (.getfield 26, 3) := by decide +kernel
theorem dX3_comeUp_16 : decode cX3_comeUp 16 = .ok (.bipush 8, 2) := by decide +kernel
theorem dX3_comeUp_18 : decode cX3_comeUp 18 = .ok (.iload_n 2, 1) := by decide +kernel
theorem dX3_comeUp_19 : decode cX3_comeUp 19 = .ok (.imul, 1) := by decide +kernel
theorem dX3_comeUp_20 : decode cX3_comeUp 20 = .ok (.iload_n 1, 1) := by decide +kernel
theorem dX3_comeUp_21 : decode cX3_comeUp 21 = .ok (.iadd, 1) := by decide +kernel
theorem dX3_comeUp_22 : decode cX3_comeUp 22 = .ok (.iconst 1, 1) := by decide +kernel
theorem dX3_comeUp_23 : decode cX3_comeUp 23 = .ok (.bastore, 1) := by decide +kernel
theorem dX3_comeUp_24 : decode cX3_comeUp 24 = .ok (.aload_n 0, 1) := by decide +kernel
theorem dX3_comeUp_25 : decode cX3_comeUp 25 = .ok (.getfield 7, 3) := by decide +kernel
theorem dX3_comeUp_28 : decode cX3_comeUp 28 = .ok (.iload_n 1, 1) := by decide +kernel
theorem dX3_comeUp_29 : decode cX3_comeUp 29 = .ok (.baload, 1) := by decide +kernel
theorem dX3_comeUp_30 : decode cX3_comeUp 30 = .ok (.ifCond .eq 55, 3) := by decide +kernel
theorem dX3_comeUp_33 : decode cX3_comeUp 33 = .ok (.aload_n 0, 1) := by decide +kernel
theorem dX3_comeUp_34 : decode cX3_comeUp 34 = .ok (.getfield 7, 3) := by decide +kernel
theorem dX3_comeUp_37 : decode cX3_comeUp 37 = .ok (.iload_n 2, 1) := by decide +kernel
theorem dX3_comeUp_38 : decode cX3_comeUp 38 = .ok (.baload, 1) := by decide +kernel
theorem dX3_comeUp_39 : decode cX3_comeUp 39 = .ok (.ifCond .eq 46, 3) := by decide +kernel
theorem dX3_comeUp_42 : decode cX3_comeUp 42 = .ok (.iload_n 1, 1) := by decide +kernel
theorem dX3_comeUp_43 : decode cX3_comeUp 43 = .ok (.iload_n 2, 1) := by decide +kernel
theorem dX3_comeUp_44 : decode cX3_comeUp 44 = .ok (.if_icmp .ge 7, 3) := by decide +kernel
theorem dX3_comeUp_47 : decode cX3_comeUp 47 = .ok (.iload_n 1, 1) := by decide +kernel
theorem dX3_comeUp_48 : decode cX3_comeUp 48 = .ok (.goto 4, 3) := by decide +kernel
theorem dX3_comeUp_51 : decode cX3_comeUp 51 = .ok (.iload_n 2, 1) := by decide +kernel
theorem dX3_comeUp_52 : decode cX3_comeUp 52 = .ok (.istore_n 3, 1) := by decide +kernel
theorem dX3_comeUp_53 : decode cX3_comeUp 53 = .ok (.iload_n 1, 1) := by decide +kernel
theorem dX3_comeUp_54 : decode cX3_comeUp 54 = .ok (.iload_n 2, 1) := by decide +kernel
theorem dX3_comeUp_55 : decode cX3_comeUp 55 = .ok (.iadd, 1) := by decide +kernel
theorem dX3_comeUp_56 : decode cX3_comeUp 56 = .ok (.iload_n 3, 1) := by decide +kernel
theorem dX3_comeUp_57 : decode cX3_comeUp 57 = .ok (.isub, 1) := by decide +kernel
theorem dX3_comeUp_58 : decode cX3_comeUp 58 = .ok (.istore 4, 2) := by decide +kernel
theorem dX3_comeUp_60 : decode cX3_comeUp 60 = .ok (.aload_n 0, 1) := by decide +kernel
theorem dX3_comeUp_61 : decode cX3_comeUp 61 = .ok (.iload_n 3, 1) := by decide +kernel
theorem dX3_comeUp_62 : decode cX3_comeUp 62 = .ok (.invokevirtual 103, 3) := by decide +kernel
theorem dX3_comeUp_65 : decode cX3_comeUp 65 = .ok (.aload_n 0, 1) := by decide +kernel
theorem dX3_comeUp_66 : decode cX3_comeUp 66 = .ok (.iload 4, 2) := by decide +kernel
theorem dX3_comeUp_68 : decode cX3_comeUp 68 = .ok (.invokevirtual 103, 3) := by decide +kernel
theorem dX3_comeUp_71 : decode cX3_comeUp 71 = .ok (.aload_n 0, 1) := by decide +kernel
theorem dX3_comeUp_72 : decode cX3_comeUp 72 = .ok (.iload_n 3, 1) := by decide +kernel
theorem dX3_comeUp_73 : decode cX3_comeUp 73 = .ok (.iload 4, 2) := by decide +kernel
theorem dX3_comeUp_75 : decode cX3_comeUp 75 = .ok (.invokevirtual 110, 3) := by decide +kernel
theorem dX3_comeUp_78 : decode cX3_comeUp 78 = .ok (.aload_n 0, 1) := by decide +kernel
theorem dX3_comeUp_79 : decode cX3_comeUp 79 = .ok (.iload 4, 2) := by decide +kernel
theorem dX3_comeUp_81 : decode cX3_comeUp 81 = .ok (.iload_n 3, 1) := by decide +kernel
theorem dX3_comeUp_82 : decode cX3_comeUp 82 = .ok (.invokevirtual 110, 3) := by decide +kernel
theorem dX3_comeUp_85 : decode cX3_comeUp 85 = .ok (.return_, 1) := by decide +kernel
theorem dX3_link_0 : decode cX3_link 0 = .ok (.iload_n 1, 1) := by decide +kernel
theorem dX3_link_1 : decode cX3_link 1 = .ok (.invokestatic 88, 3) := by decide +kernel
theorem dX3_link_4 : decode cX3_link 4 = .ok (.ifCond .eq 40, 3) := by decide +kernel
theorem dX3_link_7 : decode cX3_link 7 = .ok (.iload_n 2, 1) := by decide +kernel
theorem dX3_link_8 : decode cX3_link 8 = .ok (.invokestatic 88, 3) := by decide +kernel
theorem dX3_link_11 : decode cX3_link 11 = .ok (.ifCond .eq 33, 3) := by decide +kernel
theorem dX3_link_14 : decode cX3_link 14 = .ok (.iload_n 1, 1) := by decide +kernel
theorem dX3_link_15 : decode cX3_link 15 = .ok (.iload_n 2, 1) := by decide +kernel
theorem dX3_link_16 : decode cX3_link 16 = .ok (.if_icmp .eq 28, 3) := by decide +kernel
theorem dX3_link_19 : decode cX3_link 19 = .ok (.iload_n 3, 1) := by decide +kernel
theorem dX3_link_20 : decode cX3_link 20 = .ok (.iconst 1, 1) := by decide +kernel
theorem dX3_link_21 : decode cX3_link 21 = .ok (.bipush 50, 2) := by decide +kernel
theorem dX3_link_23 : decode cX3_link 23 = .ok (.invokestatic 84, 3) := by decide +kernel
theorem dX3_link_26 : decode cX3_link 26 = .ok (.ifCond .eq 18, 3) := by decide +kernel
theorem dX3_link_29 : decode cX3_link 29 = .ok (.iload 4, 2) := by decide +kernel
theorem dX3_link_31 : decode cX3_link 31 = .ok (.iconst 1, 1) := by decide +kernel
theorem dX3_link_32 : decode cX3_link 32 = .ok (.bipush 8, 2) := by decide +kernel
theorem dX3_link_34 : decode cX3_link 34 = .ok (.invokestatic 84, 3) := by decide +kernel
theorem dX3_link_37 : decode cX3_link 37 = .ok (.ifCond .eq 7, 3) := by decide +kernel
theorem dX3_link_40 : decode cX3_link 40 = .ok (.iconst 1, 1) := by decide +kernel
theorem dX3_link_41 : decode cX3_link 41 = .ok (.goto 4, 3) := by decide +kernel
theorem dX3_link_44 : decode cX3_link 44 = .ok (.iconst 0, 1) := by decide +kernel
theorem dX3_link_45 : decode cX3_link 45 = .ok (.istore 5, 2) := by decide +kernel
theorem dX3_link_47 : decode cX3_link 47 = .ok (.aload_n 0, 1) := by decide +kernel
theorem dX3_link_48 : decode cX3_link 48 = .ok (.iload 5, 2) := by decide +kernel
theorem dX3_link_50 : decode cX3_link 50 = .ok (.iload 5, 2) := by decide +kernel
theorem dX3_link_52 : decode cX3_link 52 = .ok (.ifCond .eq 30, 3) := by decide +kernel
theorem dX3_link_55 : decode cX3_link 55 = .ok (.aload_n 0, 1) := by decide +kernel
theorem dX3_link_56 : decode cX3_link 56 = .ok (.getfield 17, 3) := by decide +kernel
theorem dX3_link_59 : decode cX3_link 59 = .ok (.bipush 8, 2) := by decide +kernel
theorem dX3_link_61 : decode cX3_link 61 = .ok (.iload_n 1, 1) := by decide +kernel
theorem dX3_link_62 : decode cX3_link 62 = .ok (.imul, 1) := by decide +kernel
theorem dX3_link_63 : decode cX3_link 63 = .ok (.iload_n 2, 1) := by decide +kernel
theorem dX3_link_64 : decode cX3_link 64 = .ok (.iadd, 1) := by decide +kernel
theorem dX3_link_65 : decode cX3_link 65 = .ok (.baload, 1) := by decide +kernel
theorem dX3_link_66 : decode cX3_link 66 = .ok (.ifCond .ne 16, 3) := by decide +kernel
theorem dX3_link_69 : decode cX3_link 69 = .ok (.aload_n 0, 1) := by decide +kernel
theorem dX3_link_70 : decode cX3_link 70 = .ok (.getfield 114, 3) := by decide +kernel
theorem dX3_link_73 : decode cX3_link 73 = .ok (.bipush 12, 2) := by decide +kernel
theorem dX3_link_75 : decode cX3_link 75 = .ok (.if_icmp .ge 7, 3) := by decide +kernel
theorem dX3_link_78 : decode cX3_link 78 = .ok (.iconst 1, 1) := by decide +kernel
theorem dX3_link_79 : decode cX3_link 79 = .ok (.goto 4, 3) := by decide +kernel
theorem dX3_link_82 : decode cX3_link 82 = .ok (.iconst 0, 1) := by decide +kernel
theorem dX3_link_83 : decode cX3_link 83 = .ok (.invokevirtual 117, 3) := by decide +kernel
theorem dX3_link_86 : decode cX3_link 86 = .ok (.ifCond .ne 5, 3) := by decide +kernel
theorem dX3_link_89 : decode cX3_link 89 = .ok (.iconst 0, 1) := by decide +kernel
theorem dX3_link_90 : decode cX3_link 90 = .ok (.ireturn, 1) := by decide +kernel
theorem dX3_link_91 : decode cX3_link 91 = .ok (.aload_n 0, 1) := by decide +kernel
theorem dX3_link_92 : decode cX3_link 92 = .ok (.dup, 1) := by decide +kernel
theorem dX3_link_93 : decode cX3_link 93 = .ok (.getfield 114, 3) := by decide +kernel
theorem dX3_link_96 : decode cX3_link 96 = .ok (.iconst 1, 1) := by decide +kernel
theorem dX3_link_97 : decode cX3_link 97 = .ok (.iadd, 1) := by decide +kernel
theorem dX3_link_98 : decode cX3_link 98 = .ok (.putfield 114, 3) := by decide +kernel
theorem dX3_link_101 : decode cX3_link 101 = .ok (.aload_n 0, 1) := by decide +kernel
theorem dX3_link_102 : decode cX3_link 102 = .ok (.getfield 17, 3) := by decide +kernel
theorem dX3_link_105 : decode cX3_link 105 = .ok (.bipush 8, 2) := by decide +kernel
theorem dX3_link_107 : decode cX3_link 107 = .ok (.iload_n 1, 1) := by decide +kernel
theorem dX3_link_108 : decode cX3_link 108 = .ok (.imul, 1) := by decide +kernel
theorem dX3_link_109 : decode cX3_link 109 = .ok (.iload_n 2, 1) := by decide +kernel
theorem dX3_link_110 : decode cX3_link 110 = .ok (.iadd, 1) := by decide +kernel
theorem dX3_link_111 : decode cX3_link 111 = .ok (.iconst 1, 1) := by decide +kernel
theorem dX3_link_112 : decode cX3_link 112 = .ok (.bastore, 1) := by decide +kernel
theorem dX3_link_113 : decode cX3_link 113 = .ok (.aload_n 0, 1) := by decide +kernel
theorem dX3_link_114 : decode cX3_link 114 = .ok (.getfield 17, 3) := by decide +kernel
theorem dX3_link_117 : decode cX3_link 117 = .ok (.bipush 8, 2) := by decide +kernel
theorem dX3_link_119 : decode cX3_link 119 = .ok (.iload_n 2, 1) := by decide +kernel
theorem dX3_link_120 : decode cX3_link 120 = .ok (.imul, 1) := by decide +kernel
theorem dX3_link_121 : decode cX3_link 121 = .ok (.iload_n 1, 1) := by decide +kernel
theorem dX3_link_122 : decode cX3_link 122 = .ok (.iadd, 1) := by decide +kernel
theorem dX3_link_123 : decode cX3_link 123 = .ok (.iconst 1, 1) := by decide +kernel
theorem dX3_link_124 : decode cX3_link 124 = .ok (.bastore, 1) := by decide +kernel
theorem dX3_link_125 : decode cX3_link 125 = .ok (.aload_n 0, 1) := by decide +kernel
theorem dX3_link_126 : decode cX3_link 126 = .ok (.getfield 20, 3) := by decide +kernel
theorem dX3_link_129 : decode cX3_link 129 = .ok (.bipush 8, 2) := by decide +kernel
theorem dX3_link_131 : decode cX3_link 131 = .ok (.iload_n 1, 1) := by decide +kernel
theorem dX3_link_132 : decode cX3_link 132 = .ok (.imul, 1) := by decide +kernel
theorem dX3_link_133 : decode cX3_link 133 = .ok (.iload_n 2, 1) := by decide +kernel
theorem dX3_link_134 : decode cX3_link 134 = .ok (.iadd, 1) := by decide +kernel
theorem dX3_link_135 : decode cX3_link 135 = .ok (.iload_n 3, 1) := by decide +kernel
theorem dX3_link_136 : decode cX3_link 136 = .ok (.iastore, 1) := by decide +kernel
theorem dX3_link_137 : decode cX3_link 137 = .ok (.aload_n 0, 1) := by decide +kernel
theorem dX3_link_138 : decode cX3_link 138 = .ok (.getfield 20, 3) := by decide +kernel
theorem dX3_link_141 : decode cX3_link 141 = .ok (.bipush 8, 2) := by decide +kernel
theorem dX3_link_143 : decode cX3_link 143 = .ok (.iload_n 2, 1) := by decide +kernel
theorem dX3_link_144 : decode cX3_link 144 = .ok (.imul, 1) := by decide +kernel
theorem dX3_link_145 : decode cX3_link 145 = .ok (.iload_n 1, 1) := by decide +kernel
theorem dX3_link_146 : decode cX3_link 146 = .ok (.iadd, 1) := by decide +kernel
theorem dX3_link_147 : decode cX3_link 147 = .ok (.iload_n 3, 1) := by decide +kernel
theorem dX3_link_148 : decode cX3_link 148 = .ok (.iastore, 1) := by decide +kernel
theorem dX3_link_149 : decode cX3_link 149 = .ok (.aload_n 0, 1) := by decide +kernel
theorem dX3_link_150 : decode cX3_link 150 = .ok (.getfield 23, 3) := by decide +kernel
theorem dX3_link_153 : decode cX3_link 153 = .ok (.bipush 8, 2) := by decide +kernel
theorem dX3_link_155 : decode cX3_link 155 = .ok (.iload_n 1, 1) := by decide +kernel
theorem dX3_link_156 : decode cX3_link 156 = .ok (.imul, 1) := by decide +kernel
theorem dX3_link_157 : decode cX3_link 157 = .ok (.iload_n 2, 1) := by decide +kernel
theorem dX3_link_158 : decode cX3_link 158 = .ok (.iadd, 1) := by decide +kernel
theorem dX3_link_159 : decode cX3_link 159 = .ok (.iload 4, 2) := by decide +kernel
theorem dX3_link_161 : decode cX3_link 161 = .ok (.iastore, 1) := by decide +kernel
theorem dX3_link_162 : decode cX3_link 162 = .ok (.aload_n 0, 1) := by decide +kernel
theorem dX3_link_163 : decode cX3_link 163 = .ok (.getfield 23, 3) := by decide +kernel
theorem dX3_link_166 : decode cX3_link 166 = .ok (.bipush 8, 2) := by decide +kernel
theorem dX3_link_168 : decode cX3_link 168 = .ok (.iload_n 2, 1) := by decide +kernel
theorem dX3_link_169 : decode cX3_link 169 = .ok (.imul, 1) := by decide +kernel
theorem dX3_link_170 : decode cX3_link 170 = .ok (.iload_n 1, 1) := by decide +kernel
theorem dX3_link_171 : decode cX3_link 171 = .ok (.iadd, 1) := by decide +kernel
theorem dX3_link_172 : decode cX3_link 172 = .ok (.iload 4, 2) := by decide +kernel
theorem dX3_link_174 : decode cX3_link 174 = .ok (.iastore, 1) := by decide +kernel
theorem dX3_link_175 : decode cX3_link 175 = .ok (.aload_n 0, 1) := by decide +kernel
theorem dX3_link_176 : decode cX3_link 176 = .ok (.iload_n 1, 1) := by decide +kernel
theorem dX3_link_177 : decode cX3_link 177 = .ok (.iload_n 2, 1) := by decide +kernel
theorem dX3_link_178 : decode cX3_link 178 = .ok (.invokevirtual 121, 3) := by decide +kernel
theorem dX3_link_181 : decode cX3_link 181 = .ok (.aload_n 0, 1) := by decide +kernel
theorem dX3_link_182 : decode cX3_link 182 = .ok (.getfield 114, 3) := by decide +kernel
theorem dX3_link_185 : decode cX3_link 185 = .ok (.ireturn, 1) := by decide +kernel
theorem dX3_fail_0 : decode cX3_fail 0 = .ok (.aload_n 0, 1) := by decide +kernel
theorem dX3_fail_1 : decode cX3_fail 1 = .ok (.aload_n 0, 1) := by decide +kernel
theorem dX3_fail_2 : decode cX3_fail 2 = .ok (.iload_n 1, 1) := by decide +kernel
theorem dX3_fail_3 : decode cX3_fail 3 = .ok (.iload_n 2, 1) := by decide +kernel
theorem dX3_fail_4 : decode cX3_fail 4 = .ok (.invokevirtual 124, 3) := by decide +kernel
theorem dX3_fail_7 : decode cX3_fail 7 = .ok (.iconst 1, 1) := by decide +kernel
theorem dX3_fail_8 : decode cX3_fail 8 = .ok (.invokevirtual 117, 3) := by decide +kernel
theorem dX3_fail_11 : decode cX3_fail 11 = .ok (.ifCond .eq 17, 3) := by decide +kernel
theorem dX3_fail_14 : decode cX3_fail 14 = .ok (.aload_n 0, 1) := by decide +kernel
theorem dX3_fail_15 : decode cX3_fail 15 = .ok (.getfield 26, 3) := by decide +kernel
theorem dX3_fail_18 : decode cX3_fail 18 = .ok (.bipush 8, 2) := by decide +kernel
theorem dX3_fail_20 : decode cX3_fail 20 = .ok (.iload_n 1, 1) := by decide +kernel
theorem dX3_fail_21 : decode cX3_fail 21 = .ok (.imul, 1) := by decide +kernel
theorem dX3_fail_22 : decode cX3_fail 22 = .ok (.iload_n 2, 1) := by decide +kernel
theorem dX3_fail_23 : decode cX3_fail 23 = .ok (.iadd, 1) := by decide +kernel
theorem dX3_fail_24 : decode cX3_fail 24 = .ok (.baload, 1) := by decide +kernel
theorem dX3_fail_25 : decode cX3_fail 25 = .ok (.ifCond .ne 5, 3) := by decide +kernel
theorem dX3_fail_28 : decode cX3_fail 28 = .ok (.iconst 0, 1) := by decide +kernel
theorem dX3_fail_29 : decode cX3_fail 29 = .ok (.ireturn, 1) := by decide +kernel
theorem dX3_fail_30 : decode cX3_fail 30 = .ok (.aload_n 0, 1) := by decide +kernel
theorem dX3_fail_31 : decode cX3_fail 31 = .ok (.getfield 26, 3) := by decide +kernel
theorem dX3_fail_34 : decode cX3_fail 34 = .ok (.bipush 8, 2) := by decide +kernel
theorem dX3_fail_36 : decode cX3_fail 36 = .ok (.iload_n 1, 1) := by decide +kernel
theorem dX3_fail_37 : decode cX3_fail 37 = .ok (.imul, 1) := by decide +kernel
theorem dX3_fail_38 : decode cX3_fail 38 = .ok (.iload_n 2, 1) := by decide +kernel
theorem dX3_fail_39 : decode cX3_fail 39 = .ok (.iadd, 1) := by decide +kernel
theorem dX3_fail_40 : decode cX3_fail 40 = .ok (.iconst 0, 1) := by decide +kernel
theorem dX3_fail_41 : decode cX3_fail 41 = .ok (.bastore, 1) := by decide +kernel
theorem dX3_fail_42 : decode cX3_fail 42 = .ok (.aload_n 0, 1) := by decide +kernel
theorem dX3_fail_43 : decode cX3_fail 43 = .ok (.getfield 26, 3) := by decide +kernel
theorem dX3_fail_46 : decode cX3_fail 46 = .ok (.bipush 8, 2) := by decide +kernel
theorem dX3_fail_48 : decode cX3_fail 48 = .ok (.iload_n 2, 1) := by decide +kernel
theorem dX3_fail_49 : decode cX3_fail 49 = .ok (.imul, 1) := by decide +kernel
theorem dX3_fail_50 : decode cX3_fail 50 = .ok (.iload_n 1, 1) := by decide +kernel
theorem dX3_fail_51 : decode cX3_fail 51 = .ok (.iadd, 1) := by decide +kernel
theorem dX3_fail_52 : decode cX3_fail 52 = .ok (.iconst 0, 1) := by decide +kernel
theorem dX3_fail_53 : decode cX3_fail 53 = .ok (.bastore, 1) := by decide +kernel
theorem dX3_fail_54 : decode cX3_fail 54 = .ok (.aload_n 0, 1) := by decide +kernel
theorem dX3_fail_55 : decode cX3_fail 55 = .ok (.getfield 7, 3) := by decide +kernel
theorem dX3_fail_58 : decode cX3_fail 58 = .ok (.iload_n 1, 1) := by decide +kernel
theorem dX3_fail_59 : decode cX3_fail 59 = .ok (.baload, 1) := by decide +kernel
theorem dX3_fail_60 : decode cX3_fail 60 = .ok (.ifCond .eq 46, 3) := by decide +kernel
theorem dX3_fail_63 : decode cX3_fail 63 = .ok (.aload_n 0, 1) := by decide +kernel
theorem dX3_fail_64 : decode cX3_fail 64 = .ok (.getfield 7, 3) := by decide +kernel
theorem dX3_fail_67 : decode cX3_fail 67 = .ok (.iload_n 2, 1) := by decide +kernel
theorem dX3_fail_68 : decode cX3_fail 68 = .ok (.baload, 1) := by decide +kernel
theorem dX3_fail_69 : decode cX3_fail 69 = .ok (.ifCond .eq 37, 3) := by decide +kernel
theorem dX3_fail_72 : decode cX3_fail 72 = .ok (.aload_n 0, 1) := by decide +kernel
theorem dX3_fail_73 : decode cX3_fail 73 = .ok (.iload_n 1, 1) := by decide +kernel
theorem dX3_fail_74 : decode cX3_fail 74 = .ok (.iload_n 2, 1) := by decide +kernel
theorem dX3_fail_75 : decode cX3_fail 75 = .ok (.invokevirtual 127, 3) := by decide +kernel
theorem dX3_fail_78 : decode cX3_fail 78 = .ok (.aload_n 0, 1) := by decide +kernel
theorem dX3_fail_79 : decode cX3_fail 79 = .ok (.iload_n 1, 1) := by decide +kernel
theorem dX3_fail_80 : decode cX3_fail 80 = .ok (.iload_n 2, 1) := by decide +kernel
theorem dX3_fail_81 : decode cX3_fail 81 = .ok (.if_icmp .ge 7, 3) := by decide +kernel
theorem dX3_fail_84 : decode cX3_fail 84 = .ok (.iload_n 1, 1) := by decide +kernel
theorem dX3_fail_85 : decode cX3_fail 85 = .ok (.goto 4, 3) := by decide +kernel
theorem dX3_fail_88 : decode cX3_fail 88 = .ok (.iload_n 2, 1) := by decide +kernel
theorem dX3_fail_89 : decode cX3_fail 89 = .ok (.invokevirtual 103, 3) := by decide +kernel
theorem dX3_fail_92 : decode cX3_fail 92 = .ok (.aload_n 0, 1) := by decide +kernel
theorem dX3_fail_93 : decode cX3_fail 93 = .ok (.iload_n 1, 1) := by decide +kernel
theorem dX3_fail_94 : decode cX3_fail 94 = .ok (.iload_n 2, 1) := by decide +kernel
theorem dX3_fail_95 : decode cX3_fail 95 = .ok (.if_icmp .ge 7, 3) := by decide +kernel
theorem dX3_fail_98 : decode cX3_fail 98 = .ok (.iload_n 2, 1) := by decide +kernel
theorem dX3_fail_99 : decode cX3_fail 99 = .ok (.goto 4, 3) := by decide +kernel
theorem dX3_fail_102 : decode cX3_fail 102 = .ok (.iload_n 1, 1) := by decide +kernel
theorem dX3_fail_103 : decode cX3_fail 103 = .ok (.invokevirtual 103, 3) := by decide +kernel
theorem dX3_fail_106 : decode cX3_fail 106 = .ok (.iconst 1, 1) := by decide +kernel
theorem dX3_fail_107 : decode cX3_fail 107 = .ok (.ireturn, 1) := by decide +kernel
theorem dX3_restore_0 : decode cX3_restore 0 = .ok (.aload_n 0, 1) := by decide +kernel
theorem dX3_restore_1 : decode cX3_restore 1 = .ok (.aload_n 0, 1) := by decide +kernel
theorem dX3_restore_2 : decode cX3_restore 2 = .ok (.iload_n 1, 1) := by decide +kernel
theorem dX3_restore_3 : decode cX3_restore 3 = .ok (.iload_n 2, 1) := by decide +kernel
theorem dX3_restore_4 : decode cX3_restore 4 = .ok (.invokevirtual 124, 3) := by decide +kernel
theorem dX3_restore_7 : decode cX3_restore 7 = .ok (.iconst 1, 1) := by decide +kernel
theorem dX3_restore_8 : decode cX3_restore 8 = .ok (.invokevirtual 117, 3) := by decide +kernel
theorem dX3_restore_11 : decode cX3_restore 11 = .ok (.ifCond .eq 17, 3) := by decide +kernel
theorem dX3_restore_14 : decode cX3_restore 14 = .ok (.aload_n 0, 1) := by decide +kernel
theorem dX3_restore_15 : decode cX3_restore 15 = .ok (.getfield 26, 3) := by decide +kernel
theorem dX3_restore_18 : decode cX3_restore 18 = .ok (.bipush 8, 2) := by decide +kernel
theorem dX3_restore_20 : decode cX3_restore 20 = .ok (.iload_n 1, 1) := by decide +kernel
theorem dX3_restore_21 : decode cX3_restore 21 = .ok (.imul, 1) := by decide +kernel
theorem dX3_restore_22 : decode cX3_restore 22 = .ok (.iload_n 2, 1) := by decide +kernel
theorem dX3_restore_23 : decode cX3_restore 23 = .ok (.iadd, 1) := by decide +kernel
theorem dX3_restore_24 : decode cX3_restore 24 = .ok (.baload, 1) := by decide +kernel
theorem dX3_restore_25 : decode cX3_restore 25 = .ok (.ifCond .eq 5, 3) := by decide +kernel
theorem dX3_restore_28 : decode cX3_restore 28 = .ok (.iconst 0, 1) := by decide +kernel
theorem dX3_restore_29 : decode cX3_restore 29 = .ok (.ireturn, 1) := by decide +kernel
theorem dX3_restore_30 : decode cX3_restore 30 = .ok (.aload_n 0, 1) := by decide +kernel
theorem dX3_restore_31 : decode cX3_restore 31 = .ok (.iload_n 1, 1) := by decide +kernel
theorem dX3_restore_32 : decode cX3_restore 32 = .ok (.iload_n 2, 1) := by decide +kernel
theorem dX3_restore_33 : decode cX3_restore 33 = .ok (.invokevirtual 121, 3) := by decide +kernel
theorem dX3_restore_36 : decode cX3_restore 36 = .ok (.iconst 1, 1) := by decide +kernel
theorem dX3_restore_37 : decode cX3_restore 37 = .ok (.ireturn, 1) := by decide +kernel
theorem dX3_forget_0 : decode cX3_forget 0 = .ok (.iconst 0, 1) := by decide +kernel
theorem dX3_forget_1 : decode cX3_forget 1 = .ok (.istore_n 2, 1) := by decide +kernel
theorem dX3_forget_2 : decode cX3_forget 2 = .ok (.iload_n 2, 1) := by decide +kernel
theorem dX3_forget_3 : decode cX3_forget 3 = .ok (.bipush 8, 2) := by decide +kernel
theorem dX3_forget_5 : decode cX3_forget 5 = .ok (.if_icmp .ge 21, 3) := by decide +kernel
theorem dX3_forget_8 : decode cX3_forget 8 = .ok (.aload_n 0, 1) := by decide +kernel
theorem dX3_forget_9 : decode cX3_forget 9 = .ok (.getfield 29, 3) := by decide +kernel
theorem dX3_forget_12 : decode cX3_forget 12 = .ok (.bipush 8, 2) := by decide +kernel
theorem dX3_forget_14 : decode cX3_forget 14 = .ok (.iload_n 1, 1) := by decide +kernel
theorem dX3_forget_15 : decode cX3_forget 15 = .ok (.imul, 1) := by decide +kernel
theorem dX3_forget_16 : decode cX3_forget 16 = .ok (.iload_n 2, 1) := by decide +kernel
theorem dX3_forget_17 : decode cX3_forget 17 = .ok (.iadd, 1) := by decide +kernel
theorem dX3_forget_18 : decode cX3_forget 18 = .ok (.iconst 0, 1) := by decide +kernel
theorem dX3_forget_19 : decode cX3_forget 19 = .ok (.iastore, 1) := by decide +kernel
theorem dX3_forget_20 : decode cX3_forget 20 = .ok (.iinc 2 1, 3) := by decide +kernel
theorem dX3_forget_23 : decode cX3_forget 23 = .ok (.goto (-21), 3) := by decide +kernel
theorem dX3_forget_26 : decode cX3_forget 26 = .ok (.aload_n 0, 1) := by decide +kernel
theorem dX3_forget_27 : decode cX3_forget 27 = .ok (.getfield 13, 3) := by decide +kernel
theorem dX3_forget_30 : decode cX3_forget 30 = .ok (.iload_n 1, 1) := by decide +kernel
theorem dX3_forget_31 : decode cX3_forget 31 = .ok (.iconst 0, 1) := by decide +kernel
theorem dX3_forget_32 : decode cX3_forget 32 = .ok (.iastore, 1) := by decide +kernel
theorem dX3_forget_33 : decode cX3_forget 33 = .ok (.return_, 1) := by decide +kernel
theorem dX3_start_0 : decode cX3_start 0 = .ok (.aload_n 0, 1) := by decide +kernel
theorem dX3_start_1 : decode cX3_start 1 = .ok (.iload_n 1, 1) := by decide +kernel
theorem dX3_start_2 : decode cX3_start 2 = .ok (.invokestatic 88, 3) := by decide +kernel
theorem dX3_start_5 : decode cX3_start 5 = .ok (.iconst 1, 1) := by decide +kernel
theorem dX3_start_6 : decode cX3_start 6 = .ok (.invokevirtual 117, 3) := by decide +kernel
theorem dX3_start_9 : decode cX3_start 9 = .ok (.ifCond .eq 12, 3) := by decide +kernel
theorem dX3_start_12 : decode cX3_start 12 = .ok (.aload_n 0, 1) := by decide +kernel
theorem dX3_start_13 : decode cX3_start 13 = .ok (.getfield 7, 3) := by decide +kernel
theorem dX3_start_16 : decode cX3_start 16 = .ok (.iload_n 1, 1) := by decide +kernel
theorem dX3_start_17 : decode cX3_start 17 = .ok (.baload, 1) := by decide +kernel
theorem dX3_start_18 : decode cX3_start 18 = .ok (.ifCond .eq 5, 3) := by decide +kernel
theorem dX3_start_21 : decode cX3_start 21 = .ok (.iconst 0, 1) := by decide +kernel
theorem dX3_start_22 : decode cX3_start 22 = .ok (.ireturn, 1) := by decide +kernel
theorem dX3_start_23 : decode cX3_start 23 = .ok (.aload_n 0, 1) := by decide +kernel
theorem dX3_start_24 : decode cX3_start 24 = .ok (.iload_n 1, 1) := by decide +kernel
theorem dX3_start_25 : decode cX3_start 25 = .ok (.invokevirtual 130, 3) := by decide +kernel
theorem dX3_start_28 : decode cX3_start 28 = .ok (.aload_n 0, 1) := by decide +kernel
theorem dX3_start_29 : decode cX3_start 29 = .ok (.getfield 7, 3) := by decide +kernel
theorem dX3_start_32 : decode cX3_start 32 = .ok (.iload_n 1, 1) := by decide +kernel
theorem dX3_start_33 : decode cX3_start 33 = .ok (.iconst 1, 1) := by decide +kernel
theorem dX3_start_34 : decode cX3_start 34 = .ok (.bastore, 1) := by decide +kernel
theorem dX3_start_35 : decode cX3_start 35 = .ok (.iconst 0, 1) := by decide +kernel
theorem dX3_start_36 : decode cX3_start 36 = .ok (.istore_n 2, 1) := by decide +kernel
theorem dX3_start_37 : decode cX3_start 37 = .ok (.iload_n 2, 1) := by decide +kernel
theorem dX3_start_38 : decode cX3_start 38 = .ok (.bipush 8, 2) := by decide +kernel
theorem dX3_start_40 : decode cX3_start 40 = .ok (.if_icmp .ge 23, 3) := by decide +kernel
theorem dX3_start_43 : decode cX3_start 43 = .ok (.aload_n 0, 1) := by decide +kernel
theorem dX3_start_44 : decode cX3_start 44 = .ok (.iload_n 1, 1) := by decide +kernel
theorem dX3_start_45 : decode cX3_start 45 = .ok (.iload_n 2, 1) := by decide +kernel
theorem dX3_start_46 : decode cX3_start 46 = .ok (.invokevirtual 92, 3) := by decide +kernel
theorem dX3_start_49 : decode cX3_start 49 = .ok (.ifCond .eq 8, 3) := by decide +kernel
theorem dX3_start_52 : decode cX3_start 52 = .ok (.aload_n 0, 1) := by decide +kernel
theorem dX3_start_53 : decode cX3_start 53 = .ok (.iload_n 2, 1) := by decide +kernel
theorem dX3_start_54 : decode cX3_start 54 = .ok (.invokevirtual 103, 3) := by decide +kernel
theorem dX3_start_57 : decode cX3_start 57 = .ok (.iinc 2 1, 3) := by decide +kernel
theorem dX3_start_60 : decode cX3_start 60 = .ok (.goto (-23), 3) := by decide +kernel
theorem dX3_start_63 : decode cX3_start 63 = .ok (.aload_n 0, 1) := by decide +kernel
theorem dX3_start_64 : decode cX3_start 64 = .ok (.iload_n 1, 1) := by decide +kernel
theorem dX3_start_65 : decode cX3_start 65 = .ok (.invokevirtual 103, 3) := by decide +kernel
theorem dX3_start_68 : decode cX3_start 68 = .ok (.iconst 0, 1) := by decide +kernel
theorem dX3_start_69 : decode cX3_start 69 = .ok (.istore_n 2, 1) := by decide +kernel
theorem dX3_start_70 : decode cX3_start 70 = .ok (.iload_n 2, 1) := by decide +kernel
theorem dX3_start_71 : decode cX3_start 71 = .ok (.bipush 8, 2) := by decide +kernel
theorem dX3_start_73 : decode cX3_start 73 = .ok (.if_icmp .ge 24, 3) := by decide +kernel
theorem dX3_start_76 : decode cX3_start 76 = .ok (.aload_n 0, 1) := by decide +kernel
theorem dX3_start_77 : decode cX3_start 77 = .ok (.iload_n 1, 1) := by decide +kernel
theorem dX3_start_78 : decode cX3_start 78 = .ok (.iload_n 2, 1) := by decide +kernel
theorem dX3_start_79 : decode cX3_start 79 = .ok (.invokevirtual 92, 3) := by decide +kernel
theorem dX3_start_82 : decode cX3_start 82 = .ok (.ifCond .eq 9, 3) := by decide +kernel
theorem dX3_start_85 : decode cX3_start 85 = .ok (.aload_n 0, 1) := by decide +kernel
theorem dX3_start_86 : decode cX3_start 86 = .ok (.iload_n 2, 1) := by decide +kernel
theorem dX3_start_87 : decode cX3_start 87 = .ok (.iload_n 1, 1) := by decide +kernel
theorem dX3_start_88 : decode cX3_start 88 = .ok (.invokevirtual 110, 3) := by decide +kernel
theorem dX3_start_91 : decode cX3_start 91 = .ok (.iinc 2 1, 3) := by decide +kernel
theorem dX3_start_94 : decode cX3_start 94 = .ok (.goto (-24), 3) := by decide +kernel
theorem dX3_start_97 : decode cX3_start 97 = .ok (.iconst 1, 1) := by decide +kernel
theorem dX3_start_98 : decode cX3_start 98 = .ok (.ireturn, 1) := by decide +kernel
theorem dX3_crash_0 : decode cX3_crash 0 = .ok (.aload_n 0, 1) := by decide +kernel
theorem dX3_crash_1 : decode cX3_crash 1 = .ok (.iload_n 1, 1) := by decide +kernel
theorem dX3_crash_2 : decode cX3_crash 2 = .ok (.invokestatic 88, 3) := by decide +kernel
theorem dX3_crash_5 : decode cX3_crash 5 = .ok (.iconst 1, 1) := by decide +kernel
theorem dX3_crash_6 : decode cX3_crash 6 = .ok (.invokevirtual 117, 3) := by decide +kernel
theorem dX3_crash_9 : decode cX3_crash 9 = .ok (.ifCond .eq 12, 3) := by decide +kernel
theorem dX3_crash_12 : decode cX3_crash 12 = .ok (.aload_n 0, 1) := by decide +kernel
theorem dX3_crash_13 : decode cX3_crash 13 = .ok (.getfield 7, 3) := by decide +kernel
theorem dX3_crash_16 : decode cX3_crash 16 = .ok (.iload_n 1, 1) := by decide +kernel
theorem dX3_crash_17 : decode cX3_crash 17 = .ok (.baload, 1) := by decide +kernel
theorem dX3_crash_18 : decode cX3_crash 18 = .ok (.ifCond .ne 5, 3) := by decide +kernel
theorem dX3_crash_21 : decode cX3_crash 21 = .ok (.iconst 0, 1) := by decide +kernel
theorem dX3_crash_22 : decode cX3_crash 22 = .ok (.ireturn, 1) := by decide +kernel
theorem dX3_crash_23 : decode cX3_crash 23 = .ok (.iconst 0, 1) := by decide +kernel
theorem dX3_crash_24 : decode cX3_crash 24 = .ok (.istore_n 2, 1) := by decide +kernel
theorem dX3_crash_25 : decode cX3_crash 25 = .ok (.iconst 0, 1) := by decide +kernel
theorem dX3_crash_26 : decode cX3_crash 26 = .ok (.istore_n 3, 1) := by decide +kernel
theorem dX3_crash_27 : decode cX3_crash 27 = .ok (.iload_n 3, 1) := by decide +kernel
theorem dX3_crash_28 : decode cX3_crash 28 = .ok (.bipush 8, 2) := by decide +kernel
theorem dX3_crash_30 : decode cX3_crash 30 = .ok (.if_icmp .ge 28, 3) := by decide +kernel
theorem dX3_crash_33 : decode cX3_crash 33 = .ok (.aload_n 0, 1) := by decide +kernel
theorem dX3_crash_34 : decode cX3_crash 34 = .ok (.iload_n 1, 1) := by decide +kernel
theorem dX3_crash_35 : decode cX3_crash 35 = .ok (.iload_n 3, 1) := by decide +kernel
theorem dX3_crash_36 : decode cX3_crash 36 = .ok (.invokevirtual 92, 3) := by decide +kernel
theorem dX3_crash_39 : decode cX3_crash 39 = .ok (.ifCond .eq 11, 3) := by decide +kernel
theorem dX3_crash_42 : decode cX3_crash 42 = .ok (.iload_n 2, 1) := by decide +kernel
theorem dX3_crash_43 : decode cX3_crash 43 = .ok (.iconst 1, 1) := by decide +kernel
theorem dX3_crash_44 : decode cX3_crash 44 = .ok (.iload_n 3, 1) := by decide +kernel
theorem dX3_crash_45 : decode cX3_crash 45 = .ok (.ishl, 1) := by decide +kernel
theorem dX3_crash_46 : decode cX3_crash 46 = .ok (.ior, 1) := by decide +kernel
theorem dX3_crash_47 : decode cX3_crash 47 = .ok (.goto 4, 3) := by decide +kernel
theorem dX3_crash_50 : decode cX3_crash 50 = .ok (.iload_n 2, 1) := by decide +kernel
theorem dX3_crash_51 : decode cX3_crash 51 = .ok (.istore_n 2, 1) := by decide +kernel
theorem dX3_crash_52 : decode cX3_crash 52 = .ok (.iinc 3 1, 3) := by decide +kernel
theorem dX3_crash_55 : decode cX3_crash 55 = .ok (.goto (-28), 3) := by decide +kernel
theorem dX3_crash_58 : decode cX3_crash 58 = .ok (.aload_n 0, 1) := by decide +kernel
theorem dX3_crash_59 : decode cX3_crash 59 = .ok (.getfield 7, 3) := by decide +kernel
theorem dX3_crash_62 : decode cX3_crash 62 = .ok (.iload_n 1, 1) := by decide +kernel
theorem dX3_crash_63 : decode cX3_crash 63 = .ok (.iconst 0, 1) := by decide +kernel
theorem dX3_crash_64 : decode cX3_crash 64 = .ok (.bastore, 1) := by decide +kernel
theorem dX3_crash_65 : decode cX3_crash 65 = .ok (.aload_n 0, 1) := by decide +kernel
theorem dX3_crash_66 : decode cX3_crash 66 = .ok (.iload_n 1, 1) := by decide +kernel
theorem dX3_crash_67 : decode cX3_crash 67 = .ok (.invokevirtual 130, 3) := by decide +kernel
theorem dX3_crash_70 : decode cX3_crash 70 = .ok (.iconst 0, 1) := by decide +kernel
theorem dX3_crash_71 : decode cX3_crash 71 = .ok (.istore_n 3, 1) := by decide +kernel
theorem dX3_crash_72 : decode cX3_crash 72 = .ok (.iload_n 3, 1) := by decide +kernel
theorem dX3_crash_73 : decode cX3_crash 73 = .ok (.bipush 8, 2) := by decide +kernel
theorem dX3_crash_75 : decode cX3_crash 75 = .ok (.if_icmp .ge 15, 3) := by decide +kernel
theorem dX3_crash_78 : decode cX3_crash 78 = .ok (.aload_n 0, 1) := by decide +kernel
theorem dX3_crash_79 : decode cX3_crash 79 = .ok (.iload_n 1, 1) := by decide +kernel
theorem dX3_crash_80 : decode cX3_crash 80 = .ok (.iload_n 3, 1) := by decide +kernel
theorem dX3_crash_81 : decode cX3_crash 81 = .ok (.invokevirtual 127, 3) := by decide +kernel
theorem dX3_crash_84 : decode cX3_crash 84 = .ok (.iinc 3 1, 3) := by decide +kernel
theorem dX3_crash_87 : decode cX3_crash 87 = .ok (.goto (-15), 3) := by decide +kernel
theorem dX3_crash_90 : decode cX3_crash 90 = .ok (.iconst 0, 1) := by decide +kernel
theorem dX3_crash_91 : decode cX3_crash 91 = .ok (.istore_n 3, 1) := by decide +kernel
theorem dX3_crash_92 : decode cX3_crash 92 = .ok (.iload_n 3, 1) := by decide +kernel
theorem dX3_crash_93 : decode cX3_crash 93 = .ok (.bipush 8, 2) := by decide +kernel
theorem dX3_crash_95 : decode cX3_crash 95 = .ok (.if_icmp .ge 23, 3) := by decide +kernel
theorem dX3_crash_98 : decode cX3_crash 98 = .ok (.iload_n 2, 1) := by decide +kernel
theorem dX3_crash_99 : decode cX3_crash 99 = .ok (.iload_n 3, 1) := by decide +kernel
theorem dX3_crash_100 : decode cX3_crash 100 = .ok (.ishr, 1) := by decide +kernel
theorem dX3_crash_101 : decode cX3_crash 101 = .ok (.iconst 1, 1) := by decide +kernel
theorem dX3_crash_102 : decode cX3_crash 102 = .ok (.iand, 1) := by decide +kernel
theorem dX3_crash_103 : decode cX3_crash 103 = .ok (.iconst 1, 1) := by decide +kernel
theorem dX3_crash_104 : decode cX3_crash 104 = .ok (.if_icmp .ne 8, 3) := by decide +kernel
theorem dX3_crash_107 : decode cX3_crash 107 = .ok (.aload_n 0, 1) := by decide +kernel
theorem dX3_crash_108 : decode cX3_crash 108 = .ok (.iload_n 3, 1) := by decide +kernel
theorem dX3_crash_109 : decode cX3_crash 109 = .ok (.invokevirtual 103, 3) := by decide +kernel
theorem dX3_crash_112 : decode cX3_crash 112 = .ok (.iinc 3 1, 3) := by decide +kernel
theorem dX3_crash_115 : decode cX3_crash 115 = .ok (.goto (-23), 3) := by decide +kernel
theorem dX3_crash_118 : decode cX3_crash 118 = .ok (.iconst 1, 1) := by decide +kernel
theorem dX3_crash_119 : decode cX3_crash 119 = .ok (.ireturn, 1) := by decide +kernel
theorem dX3_grow_0 : decode cX3_grow 0 = .ok (.iconst 0, 1) := by decide +kernel
theorem dX3_grow_1 : decode cX3_grow 1 = .ok (.istore_n 1, 1) := by decide +kernel
theorem dX3_grow_2 : decode cX3_grow 2 = .ok (.iload_n 1, 1) := by decide +kernel
theorem dX3_grow_3 : decode cX3_grow 3 = .ok (.bipush 64, 2) := by decide +kernel
theorem dX3_grow_5 : decode cX3_grow 5 = .ok (.if_icmp .ge 46, 3) := by decide +kernel
theorem dX3_grow_8 : decode cX3_grow 8 = .ok (.aload_n 0, 1) := by decide +kernel
theorem dX3_grow_9 : decode cX3_grow 9 = .ok (.getfield 32, 3) := by decide +kernel
theorem dX3_grow_12 : decode cX3_grow 12 = .ok (.iload_n 1, 1) := by decide +kernel
theorem dX3_grow_13 : decode cX3_grow 13 = .ok (.dup2, 1) := by decide +kernel
theorem dX3_grow_14 : decode cX3_grow 14 = .ok (.iaload, 1) := by decide +kernel
theorem dX3_grow_15 : decode cX3_grow 15 = .ok (.iconst 1, 1) := by decide +kernel
theorem dX3_grow_16 : decode cX3_grow 16 = .ok (.iadd, 1) := by decide +kernel
theorem dX3_grow_17 : decode cX3_grow 17 = .ok (.iastore, 1) := by decide +kernel
theorem dX3_grow_18 : decode cX3_grow 18 = .ok (.aload_n 0, 1) := by decide +kernel
theorem dX3_grow_19 : decode cX3_grow 19 = .ok (.getfield 29, 3) := by decide +kernel
theorem dX3_grow_22 : decode cX3_grow 22 = .ok (.iload_n 1, 1) := by decide +kernel
theorem dX3_grow_23 : decode cX3_grow 23 = .ok (.aload_n 0, 1) := by decide +kernel
theorem dX3_grow_24 : decode cX3_grow 24 = .ok (.getfield 32, 3) := by decide +kernel
theorem dX3_grow_27 : decode cX3_grow 27 = .ok (.iload_n 1, 1) := by decide +kernel
theorem dX3_grow_28 : decode cX3_grow 28 = .ok (.iaload, 1) := by decide +kernel
theorem dX3_grow_29 : decode cX3_grow 29 = .ok (.bipush 60, 2) := by decide +kernel
theorem dX3_grow_31 : decode cX3_grow 31 = .ok (.if_icmp .lt 7, 3) := by decide +kernel
theorem dX3_grow_34 : decode cX3_grow 34 = .ok (.iconst 0, 1) := by decide +kernel
theorem dX3_grow_35 : decode cX3_grow 35 = .ok (.goto 9, 3) := by decide +kernel
theorem dX3_grow_38 : decode cX3_grow 38 = .ok (.aload_n 0, 1) := by decide +kernel
theorem dX3_grow_39 : decode cX3_grow 39 = .ok (.getfield 29, 3) := by decide +kernel
theorem dX3_grow_42 : decode cX3_grow 42 = .ok (.iload_n 1, 1) := by decide +kernel
theorem dX3_grow_43 : decode cX3_grow 43 = .ok (.iaload, 1) := by decide +kernel
theorem dX3_grow_44 : decode cX3_grow 44 = .ok (.iastore, 1) := by decide +kernel
theorem dX3_grow_45 : decode cX3_grow 45 = .ok (.iinc 1 1, 3) := by decide +kernel
theorem dX3_grow_48 : decode cX3_grow 48 = .ok (.goto (-46), 3) := by decide +kernel
theorem dX3_grow_51 : decode cX3_grow 51 = .ok (.iconst 0, 1) := by decide +kernel
theorem dX3_grow_52 : decode cX3_grow 52 = .ok (.istore_n 1, 1) := by decide +kernel
theorem dX3_grow_53 : decode cX3_grow 53 = .ok (.iload_n 1, 1) := by decide +kernel
theorem dX3_grow_54 : decode cX3_grow 54 = .ok (.sipush 512, 3) := by decide +kernel
theorem dX3_grow_57 : decode cX3_grow 57 = .ok (.if_icmp .ge 46, 3) := by decide +kernel
theorem dX3_grow_60 : decode cX3_grow 60 = .ok (.aload_n 0, 1) := by decide +kernel
theorem dX3_grow_61 : decode cX3_grow 61 = .ok (.getfield 41, 3) := by decide +kernel
theorem dX3_grow_64 : decode cX3_grow 64 = .ok (.iload_n 1, 1) := by decide +kernel
theorem dX3_grow_65 : decode cX3_grow 65 = .ok (.dup2, 1) := by decide +kernel
theorem dX3_grow_66 : decode cX3_grow 66 = .ok (.iaload, 1) := by decide +kernel
theorem dX3_grow_67 : decode cX3_grow 67 = .ok (.iconst 1, 1) := by decide +kernel
theorem dX3_grow_68 : decode cX3_grow 68 = .ok (.iadd, 1) := by decide +kernel
theorem dX3_grow_69 : decode cX3_grow 69 = .ok (.iastore, 1) := by decide +kernel
theorem dX3_grow_70 : decode cX3_grow 70 = .ok (.aload_n 0, 1) := by decide +kernel
theorem dX3_grow_71 : decode cX3_grow 71 = .ok (.getfield 38, 3) := by decide +kernel
theorem dX3_grow_74 : decode cX3_grow 74 = .ok (.iload_n 1, 1) := by decide +kernel
theorem dX3_grow_75 : decode cX3_grow 75 = .ok (.aload_n 0, 1) := by decide +kernel
theorem dX3_grow_76 : decode cX3_grow 76 = .ok (.getfield 41, 3) := by decide +kernel
theorem dX3_grow_79 : decode cX3_grow 79 = .ok (.iload_n 1, 1) := by decide +kernel
theorem dX3_grow_80 : decode cX3_grow 80 = .ok (.iaload, 1) := by decide +kernel
theorem dX3_grow_81 : decode cX3_grow 81 = .ok (.bipush 60, 2) := by decide +kernel
theorem dX3_grow_83 : decode cX3_grow 83 = .ok (.if_icmp .lt 7, 3) := by decide +kernel
theorem dX3_grow_86 : decode cX3_grow 86 = .ok (.iconst 0, 1) := by decide +kernel
theorem dX3_grow_87 : decode cX3_grow 87 = .ok (.goto 9, 3) := by decide +kernel
theorem dX3_grow_90 : decode cX3_grow 90 = .ok (.aload_n 0, 1) := by decide +kernel
theorem dX3_grow_91 : decode cX3_grow 91 = .ok (.getfield 38, 3) := by decide +kernel
theorem dX3_grow_94 : decode cX3_grow 94 = .ok (.iload_n 1, 1) := by decide +kernel
theorem dX3_grow_95 : decode cX3_grow 95 = .ok (.iaload, 1) := by decide +kernel
theorem dX3_grow_96 : decode cX3_grow 96 = .ok (.iastore, 1) := by decide +kernel
theorem dX3_grow_97 : decode cX3_grow 97 = .ok (.iinc 1 1, 3) := by decide +kernel
theorem dX3_grow_100 : decode cX3_grow 100 = .ok (.goto (-47), 3) := by decide +kernel
theorem dX3_grow_103 : decode cX3_grow 103 = .ok (.return_, 1) := by decide +kernel
theorem dX3_oneTick_0 : decode cX3_oneTick 0 = .ok (.aload_n 0, 1) := by decide +kernel
theorem dX3_oneTick_1 : decode cX3_oneTick 1 = .ok (.dup, 1) := by decide +kernel
theorem dX3_oneTick_2 : decode cX3_oneTick 2 = .ok (.getfield 96, 3) := by decide +kernel
theorem dX3_oneTick_5 : decode cX3_oneTick 5 = .ok (.iconst 1, 1) := by decide +kernel
theorem dX3_oneTick_6 : decode cX3_oneTick 6 = .ok (.iadd, 1) := by decide +kernel
theorem dX3_oneTick_7 : decode cX3_oneTick 7 = .ok (.putfield 96, 3) := by decide +kernel
theorem dX3_oneTick_10 : decode cX3_oneTick 10 = .ok (.aload_n 0, 1) := by decide +kernel
theorem dX3_oneTick_11 : decode cX3_oneTick 11 = .ok (.invokevirtual 133, 3) := by decide +kernel
theorem dX3_oneTick_14 : decode cX3_oneTick 14 = .ok (.iconst 0, 1) := by decide +kernel
theorem dX3_oneTick_15 : decode cX3_oneTick 15 = .ok (.istore_n 1, 1) := by decide +kernel
theorem dX3_oneTick_16 : decode cX3_oneTick 16 = .ok (.iload_n 1, 1) := by decide +kernel
theorem dX3_oneTick_17 : decode cX3_oneTick 17 = .ok (.bipush 8, 2) := by decide +kernel
theorem dX3_oneTick_19 : decode cX3_oneTick 19 = .ok (.if_icmp .ge 53, 3) := by decide +kernel
theorem dX3_oneTick_22 : decode cX3_oneTick 22 = .ok (.aload_n 0, 1) := by decide +kernel
theorem dX3_oneTick_23 : decode cX3_oneTick 23 = .ok (.getfield 7, 3) := by decide +kernel
theorem dX3_oneTick_26 : decode cX3_oneTick 26 = .ok (.iload_n 1, 1) := by decide +kernel
theorem dX3_oneTick_27 : decode cX3_oneTick 27 = .ok (.baload, 1) := by decide +kernel
theorem dX3_oneTick_28 : decode cX3_oneTick 28 = .ok (.ifCond .eq 38, 3) := by decide +kernel
theorem dX3_oneTick_31 : decode cX3_oneTick 31 = .ok (.aload_n 0, 1) := by decide +kernel
theorem dX3_oneTick_32 : decode cX3_oneTick 32 = .ok (.getfield 29, 3) := by decide +kernel
theorem dX3_oneTick_35 : decode cX3_oneTick 35 = .ok (.bipush 8, 2) := by decide +kernel
theorem dX3_oneTick_37 : decode cX3_oneTick 37 = .ok (.iload_n 1, 1) := by decide +kernel
theorem dX3_oneTick_38 : decode cX3_oneTick 38 = .ok (.imul, 1) := by decide +kernel
theorem dX3_oneTick_39 : decode cX3_oneTick 39 = .ok (.iload_n 1, 1) := by decide +kernel
theorem dX3_oneTick_40 : decode cX3_oneTick 40 = .ok (.iadd, 1) := by decide +kernel
theorem dX3_oneTick_41 : decode cX3_oneTick 41 = .ok (.iaload, 1) := by decide +kernel
theorem dX3_oneTick_42 : decode cX3_oneTick 42 = .ok (.ifCond .le 24, 3) := by decide +kernel
theorem dX3_oneTick_45 : decode cX3_oneTick 45 = .ok (.aload_n 0, 1) := by decide +kernel
theorem dX3_oneTick_46 : decode cX3_oneTick 46 = .ok (.getfield 32, 3) := by decide +kernel
theorem dX3_oneTick_49 : decode cX3_oneTick 49 = .ok (.bipush 8, 2) := by decide +kernel
theorem dX3_oneTick_51 : decode cX3_oneTick 51 = .ok (.iload_n 1, 1) := by decide +kernel
theorem dX3_oneTick_52 : decode cX3_oneTick 52 = .ok (.imul, 1) := by decide +kernel
theorem dX3_oneTick_53 : decode cX3_oneTick 53 = .ok (.iload_n 1, 1) := by decide +kernel
theorem dX3_oneTick_54 : decode cX3_oneTick 54 = .ok (.iadd, 1) := by decide +kernel
theorem dX3_oneTick_55 : decode cX3_oneTick 55 = .ok (.iaload, 1) := by decide +kernel
theorem dX3_oneTick_56 : decode cX3_oneTick 56 = .ok (.bipush 40, 2) := by decide +kernel
theorem dX3_oneTick_58 : decode cX3_oneTick 58 = .ok (.if_icmp .ne 8, 3) := by decide +kernel
theorem dX3_oneTick_61 : decode cX3_oneTick 61 = .ok (.aload_n 0, 1) := by decide +kernel
theorem dX3_oneTick_62 : decode cX3_oneTick 62 = .ok (.iload_n 1, 1) := by decide +kernel
theorem dX3_oneTick_63 : decode cX3_oneTick 63 = .ok (.invokevirtual 103, 3) := by decide +kernel
theorem dX3_oneTick_66 : decode cX3_oneTick 66 = .ok (.iinc 1 1, 3) := by decide +kernel
theorem dX3_oneTick_69 : decode cX3_oneTick 69 = .ok (.goto (-53), 3) := by decide +kernel
theorem dX3_oneTick_72 : decode cX3_oneTick 72 = .ok (.iconst 0, 1) := by decide +kernel
theorem dX3_oneTick_73 : decode cX3_oneTick 73 = .ok (.istore_n 1, 1) := by decide +kernel
theorem dX3_oneTick_74 : decode cX3_oneTick 74 = .ok (.iload_n 1, 1) := by decide +kernel
theorem dX3_oneTick_75 : decode cX3_oneTick 75 = .ok (.sipush 512, 3) := by decide +kernel
theorem dX3_oneTick_78 : decode cX3_oneTick 78 = .ok (.if_icmp .ge 50, 3) := by decide +kernel
theorem dX3_oneTick_81 : decode cX3_oneTick 81 = .ok (.aload_n 0, 1) := by decide +kernel
theorem dX3_oneTick_82 : decode cX3_oneTick 82 = .ok (.getfield 38, 3) := by decide +kernel
theorem dX3_oneTick_85 : decode cX3_oneTick 85 = .ok (.iload_n 1, 1) := by decide +kernel
theorem dX3_oneTick_86 : decode cX3_oneTick 86 = .ok (.iaload, 1) := by decide +kernel
theorem dX3_oneTick_87 : decode cX3_oneTick 87 = .ok (.ifCond .le 35, 3) := by decide +kernel
theorem dX3_oneTick_90 : decode cX3_oneTick 90 = .ok (.aload_n 0, 1) := by decide +kernel
theorem dX3_oneTick_91 : decode cX3_oneTick 91 = .ok (.getfield 44, 3) := by decide +kernel
theorem dX3_oneTick_94 : decode cX3_oneTick 94 = .ok (.iload_n 1, 1) := by decide +kernel
theorem dX3_oneTick_95 : decode cX3_oneTick 95 = .ok (.iaload, 1) := by decide +kernel
theorem dX3_oneTick_96 : decode cX3_oneTick 96 = .ok (.aload_n 0, 1) := by decide +kernel
theorem dX3_oneTick_97 : decode cX3_oneTick 97 = .ok (.getfield 96, 3) := by decide +kernel
theorem dX3_oneTick_100 : decode cX3_oneTick 100 = .ok (.if_icmp .ne 22, 3) := by decide +kernel
theorem dX3_oneTick_103 : decode cX3_oneTick 103 = .ok (.aload_n 0, 1) := by decide +kernel
theorem dX3_oneTick_104 : decode cX3_oneTick 104 = .ok (.iload_n 1, 1) := by decide +kernel
theorem dX3_oneTick_105 : decode cX3_oneTick 105 = .ok (.bipush 64, 2) := by decide +kernel
theorem dX3_oneTick_107 : decode cX3_oneTick 107 = .ok (.idiv, 1) := by decide +kernel
theorem dX3_oneTick_108 : decode cX3_oneTick 108 = .ok (.iload_n 1, 1) := by decide +kernel
theorem dX3_oneTick_109 : decode cX3_oneTick 109 = .ok (.bipush 8, 2) := by decide +kernel
theorem dX3_oneTick_111 : decode cX3_oneTick 111 = .ok (.idiv, 1) := by decide +kernel
theorem dX3_oneTick_112 : decode cX3_oneTick 112 = .ok (.bipush 8, 2) := by decide +kernel
theorem dX3_oneTick_114 : decode cX3_oneTick 114 = .ok (.irem, 1) := by decide +kernel
theorem dX3_oneTick_115 : decode cX3_oneTick 115 = .ok (.iload_n 1, 1) := by decide +kernel
theorem dX3_oneTick_116 : decode cX3_oneTick 116 = .ok (.bipush 8, 2) := by decide +kernel
theorem dX3_oneTick_118 : decode cX3_oneTick 118 = .ok (.irem, 1) := by decide +kernel
theorem dX3_oneTick_119 : decode cX3_oneTick 119 = .ok (.invokevirtual 136, 3) := by decide +kernel
theorem dX3_oneTick_122 : decode cX3_oneTick 122 = .ok (.iinc 1 1, 3) := by decide +kernel
theorem dX3_oneTick_125 : decode cX3_oneTick 125 = .ok (.goto (-51), 3) := by decide +kernel
theorem dX3_oneTick_128 : decode cX3_oneTick 128 = .ok (.iconst 0, 1) := by decide +kernel
theorem dX3_oneTick_129 : decode cX3_oneTick 129 = .ok (.istore_n 1, 1) := by decide +kernel
theorem dX3_oneTick_130 : decode cX3_oneTick 130 = .ok (.iload_n 1, 1) := by decide +kernel
theorem dX3_oneTick_131 : decode cX3_oneTick 131 = .ok (.aload_n 0, 1) := by decide +kernel
theorem dX3_oneTick_132 : decode cX3_oneTick 132 = .ok (.getfield 107, 3) := by decide +kernel
theorem dX3_oneTick_135 : decode cX3_oneTick 135 = .ok (.if_icmp .ge 42, 3) := by decide +kernel
theorem dX3_oneTick_138 : decode cX3_oneTick 138 = .ok (.aload_n 0, 1) := by decide +kernel
theorem dX3_oneTick_139 : decode cX3_oneTick 139 = .ok (.getfield 56, 3) := by decide +kernel
theorem dX3_oneTick_142 : decode cX3_oneTick 142 = .ok (.iload_n 1, 1) := by decide +kernel
theorem dX3_oneTick_143 : decode cX3_oneTick 143 = .ok (.iaload, 1) := by decide +kernel
theorem dX3_oneTick_144 : decode cX3_oneTick 144 = .ok (.ifCond .ne 27, 3) := by decide +kernel
theorem dX3_oneTick_147 : decode cX3_oneTick 147 = .ok (.aload_n 0, 1) := by decide +kernel
theorem dX3_oneTick_148 : decode cX3_oneTick 148 = .ok (.getfield 65, 3) := by decide +kernel
theorem dX3_oneTick_151 : decode cX3_oneTick 151 = .ok (.iload_n 1, 1) := by decide +kernel
theorem dX3_oneTick_152 : decode cX3_oneTick 152 = .ok (.iaload, 1) := by decide +kernel
theorem dX3_oneTick_153 : decode cX3_oneTick 153 = .ok (.aload_n 0, 1) := by decide +kernel
theorem dX3_oneTick_154 : decode cX3_oneTick 154 = .ok (.getfield 96, 3) := by decide +kernel
theorem dX3_oneTick_157 : decode cX3_oneTick 157 = .ok (.if_icmp .ne 14, 3) := by decide +kernel
theorem dX3_oneTick_160 : decode cX3_oneTick 160 = .ok (.aload_n 0, 1) := by decide +kernel
theorem dX3_oneTick_161 : decode cX3_oneTick 161 = .ok (.iload_n 1, 1) := by decide +kernel
theorem dX3_oneTick_162 : decode cX3_oneTick 162 = .ok (.aload_n 0, 1) := by decide +kernel
theorem dX3_oneTick_163 : decode cX3_oneTick 163 = .ok (.getfield 62, 3) := by decide +kernel
theorem dX3_oneTick_166 : decode cX3_oneTick 166 = .ok (.iload_n 1, 1) := by decide +kernel
theorem dX3_oneTick_167 : decode cX3_oneTick 167 = .ok (.iaload, 1) := by decide +kernel
theorem dX3_oneTick_168 : decode cX3_oneTick 168 = .ok (.invokevirtual 139, 3) := by decide +kernel
theorem dX3_oneTick_171 : decode cX3_oneTick 171 = .ok (.iinc 1 1, 3) := by decide +kernel
theorem dX3_oneTick_174 : decode cX3_oneTick 174 = .ok (.goto (-44), 3) := by decide +kernel
theorem dX3_oneTick_177 : decode cX3_oneTick 177 = .ok (.return_, 1) := by decide +kernel
theorem dX3_tick_0 : decode cX3_tick 0 = .ok (.aload_n 0, 1) := by decide +kernel
theorem dX3_tick_1 : decode cX3_tick 1 = .ok (.iload_n 1, 1) := by decide +kernel
theorem dX3_tick_2 : decode cX3_tick 2 = .ok (.iconst 1, 1) := by decide +kernel
theorem dX3_tick_3 : decode cX3_tick 3 = .ok (.bipush 50, 2) := by decide +kernel
theorem dX3_tick_5 : decode cX3_tick 5 = .ok (.invokestatic 84, 3) := by decide +kernel
theorem dX3_tick_8 : decode cX3_tick 8 = .ok (.iconst 1, 1) := by decide +kernel
theorem dX3_tick_9 : decode cX3_tick 9 = .ok (.invokevirtual 117, 3) := by decide +kernel
theorem dX3_tick_12 : decode cX3_tick 12 = .ok (.ifCond .ne 5, 3) := by decide +kernel
theorem dX3_tick_15 : decode cX3_tick 15 = .ok (.iconst 0, 1) := by decide +kernel
theorem dX3_tick_16 : decode cX3_tick 16 = .ok (.ireturn, 1) := by decide +kernel
theorem dX3_tick_17 : decode cX3_tick 17 = .ok (.iconst 0, 1) := by decide +kernel
theorem dX3_tick_18 : decode cX3_tick 18 = .ok (.istore_n 2, 1) := by decide +kernel
theorem dX3_tick_19 : decode cX3_tick 19 = .ok (.iload_n 2, 1) := by decide +kernel
theorem dX3_tick_20 : decode cX3_tick 20 = .ok (.iload_n 1, 1) := by decide +kernel
theorem dX3_tick_21 : decode cX3_tick 21 = .ok (.if_icmp .ge 13, 3) := by decide +kernel
theorem dX3_tick_24 : decode cX3_tick 24 = .ok (.aload_n 0, 1) := by decide +kernel
theorem dX3_tick_25 : decode cX3_tick 25 = .ok (.invokevirtual 142, 3) := by decide +kernel
theorem dX3_tick_28 : decode cX3_tick 28 = .ok (.iinc 2 1, 3) := by decide +kernel
theorem dX3_tick_31 : decode cX3_tick 31 = .ok (.goto (-12), 3) := by decide +kernel
theorem dX3_tick_34 : decode cX3_tick 34 = .ok (.aload_n 0, 1) := by decide +kernel
theorem dX3_tick_35 : decode cX3_tick 35 = .ok (.getfield 96, 3) := by decide +kernel
theorem dX3_tick_38 : decode cX3_tick 38 = .ok (.ireturn, 1) := by decide +kernel
theorem dX3_step_0 : decode cX3_step 0 = .ok (.bipush 8, 2) := by decide +kernel
theorem dX3_step_2 : decode cX3_step 2 = .ok (.iload_n 1, 1) := by decide +kernel
theorem dX3_step_3 : decode cX3_step 3 = .ok (.imul, 1) := by decide +kernel
theorem dX3_step_4 : decode cX3_step 4 = .ok (.iload_n 2, 1) := by decide +kernel
theorem dX3_step_5 : decode cX3_step 5 = .ok (.iadd, 1) := by decide +kernel
theorem dX3_step_6 : decode cX3_step 6 = .ok (.istore 4, 2) := by decide +kernel
theorem dX3_step_8 : decode cX3_step 8 = .ok (.bipush 8, 2) := by decide +kernel
theorem dX3_step_10 : decode cX3_step 10 = .ok (.iload_n 1, 1) := by decide +kernel
theorem dX3_step_11 : decode cX3_step 11 = .ok (.imul, 1) := by decide +kernel
theorem dX3_step_12 : decode cX3_step 12 = .ok (.iload_n 3, 1) := by decide +kernel
theorem dX3_step_13 : decode cX3_step 13 = .ok (.iadd, 1) := by decide +kernel
theorem dX3_step_14 : decode cX3_step 14 = .ok (.istore 5, 2) := by decide +kernel
theorem dX3_step_16 : decode cX3_step 16 = .ok (.aload_n 0, 1) := by decide +kernel
theorem dX3_step_17 : decode cX3_step 17 = .ok (.getfield 29, 3) := by decide +kernel
theorem dX3_step_20 : decode cX3_step 20 = .ok (.iload 4, 2) := by decide +kernel
theorem dX3_step_22 : decode cX3_step 22 = .ok (.iaload, 1) := by decide +kernel
theorem dX3_step_23 : decode cX3_step 23 = .ok (.ifCond .le 32, 3) := by decide +kernel
theorem dX3_step_26 : decode cX3_step 26 = .ok (.aload_n 0, 1) := by decide +kernel
theorem dX3_step_27 : decode cX3_step 27 = .ok (.getfield 29, 3) := by decide +kernel
theorem dX3_step_30 : decode cX3_step 30 = .ok (.iload 5, 2) := by decide +kernel
theorem dX3_step_32 : decode cX3_step 32 = .ok (.iaload, 1) := by decide +kernel
theorem dX3_step_33 : decode cX3_step 33 = .ok (.ifCond .le 22, 3) := by decide +kernel
theorem dX3_step_36 : decode cX3_step 36 = .ok (.aload_n 0, 1) := by decide +kernel
theorem dX3_step_37 : decode cX3_step 37 = .ok (.getfield 35, 3) := by decide +kernel
theorem dX3_step_40 : decode cX3_step 40 = .ok (.bipush 8, 2) := by decide +kernel
theorem dX3_step_42 : decode cX3_step 42 = .ok (.iload 5, 2) := by decide +kernel
theorem dX3_step_44 : decode cX3_step 44 = .ok (.imul, 1) := by decide +kernel
theorem dX3_step_45 : decode cX3_step 45 = .ok (.iload_n 2, 1) := by decide +kernel
theorem dX3_step_46 : decode cX3_step 46 = .ok (.iadd, 1) := by decide +kernel
theorem dX3_step_47 : decode cX3_step 47 = .ok (.iaload, 1) := by decide +kernel
theorem dX3_step_48 : decode cX3_step 48 = .ok (.ifCond .le 7, 3) := by decide +kernel
theorem dX3_step_51 : decode cX3_step 51 = .ok (.iconst 1, 1) := by decide +kernel
theorem dX3_step_52 : decode cX3_step 52 = .ok (.goto 4, 3) := by decide +kernel
theorem dX3_step_55 : decode cX3_step 55 = .ok (.iconst 0, 1) := by decide +kernel
theorem dX3_step_56 : decode cX3_step 56 = .ok (.istore 6, 2) := by decide +kernel
theorem dX3_step_58 : decode cX3_step 58 = .ok (.iload 6, 2) := by decide +kernel
theorem dX3_step_60 : decode cX3_step 60 = .ok (.ifCond .eq 18, 3) := by decide +kernel
theorem dX3_step_63 : decode cX3_step 63 = .ok (.aload_n 0, 1) := by decide +kernel
theorem dX3_step_64 : decode cX3_step 64 = .ok (.getfield 35, 3) := by decide +kernel
theorem dX3_step_67 : decode cX3_step 67 = .ok (.bipush 8, 2) := by decide +kernel
theorem dX3_step_69 : decode cX3_step 69 = .ok (.iload 4, 2) := by decide +kernel
theorem dX3_step_71 : decode cX3_step 71 = .ok (.imul, 1) := by decide +kernel
theorem dX3_step_72 : decode cX3_step 72 = .ok (.iload_n 3, 1) := by decide +kernel
theorem dX3_step_73 : decode cX3_step 73 = .ok (.iadd, 1) := by decide +kernel
theorem dX3_step_74 : decode cX3_step 74 = .ok (.iaload, 1) := by decide +kernel
theorem dX3_step_75 : decode cX3_step 75 = .ok (.goto 4, 3) := by decide +kernel
theorem dX3_step_78 : decode cX3_step 78 = .ok (.iconst 0, 1) := by decide +kernel
theorem dX3_step_79 : decode cX3_step 79 = .ok (.ireturn, 1) := by decide +kernel
theorem dX3_measure_0 : decode cX3_measure 0 = .ok (.iconst 0, 1) := by decide +kernel
theorem dX3_measure_1 : decode cX3_measure 1 = .ok (.istore_n 3, 1) := by decide +kernel
theorem dX3_measure_2 : decode cX3_measure 2 = .ok (.iload_n 3, 1) := by decide +kernel
theorem dX3_measure_3 : decode cX3_measure 3 = .ok (.bipush 8, 2) := by decide +kernel
theorem dX3_measure_5 : decode cX3_measure 5 = .ok (.if_icmp .ge 25, 3) := by decide +kernel
theorem dX3_measure_8 : decode cX3_measure 8 = .ok (.aload_n 0, 1) := by decide +kernel
theorem dX3_measure_9 : decode cX3_measure 9 = .ok (.getfield 74, 3) := by decide +kernel
theorem dX3_measure_12 : decode cX3_measure 12 = .ok (.iload_n 3, 1) := by decide +kernel
theorem dX3_measure_13 : decode cX3_measure 13 = .ok (.iload_n 3, 1) := by decide +kernel
theorem dX3_measure_14 : decode cX3_measure 14 = .ok (.iload_n 2, 1) := by decide +kernel
theorem dX3_measure_15 : decode cX3_measure 15 = .ok (.if_icmp .ne 7, 3) := by decide +kernel
theorem dX3_measure_18 : decode cX3_measure 18 = .ok (.iconst 0, 1) := by decide +kernel
theorem dX3_measure_19 : decode cX3_measure 19 = .ok (.goto 4, 3) := by decide +kernel
theorem dX3_measure_22 : decode cX3_measure 22 = .ok (.iconst (-1), 1) := by decide +kernel
theorem dX3_measure_23 : decode cX3_measure 23 = .ok (.iastore, 1) := by decide +kernel
theorem dX3_measure_24 : decode cX3_measure 24 = .ok (.iinc 3 1, 3) := by decide +kernel
theorem dX3_measure_27 : decode cX3_measure 27 = .ok (.goto (-25), 3) := by decide +kernel
theorem dX3_measure_30 : decode cX3_measure 30 = .ok (.iconst 1, 1) := by decide +kernel
theorem dX3_measure_31 : decode cX3_measure 31 = .ok (.istore_n 3, 1) := by decide +kernel
theorem dX3_measure_32 : decode cX3_measure 32 = .ok (.iload_n 3, 1) := by decide +kernel
theorem dX3_measure_33 : decode cX3_measure 33 = .ok (.ifCond .eq 117, 3) := by decide +kernel
theorem dX3_measure_36 : decode cX3_measure 36 = .ok (.iconst 0, 1) := by decide +kernel
theorem dX3_measure_37 : decode cX3_measure 37 = .ok (.istore_n 3, 1) := by decide +kernel
theorem dX3_measure_38 : decode cX3_measure 38 = .ok (.iconst 0, 1) := by decide +kernel
theorem dX3_measure_39 : decode cX3_measure 39 = .ok (.istore 4, 2) := by decide +kernel
theorem dX3_measure_41 : decode cX3_measure 41 = .ok (.iload 4, 2) := by decide +kernel
theorem dX3_measure_43 : decode cX3_measure 43 = .ok (.bipush 8, 2) := by decide +kernel
theorem dX3_measure_45 : decode cX3_measure 45 = .ok (.if_icmp .ge 102, 3) := by decide +kernel
theorem dX3_measure_48 : decode cX3_measure 48 = .ok (.iconst 0, 1) := by decide +kernel
theorem dX3_measure_49 : decode cX3_measure 49 = .ok (.istore 5, 2) := by decide +kernel
theorem dX3_measure_51 : decode cX3_measure 51 = .ok (.iload 5, 2) := by decide +kernel
theorem dX3_measure_53 : decode cX3_measure 53 = .ok (.bipush 8, 2) := by decide +kernel
theorem dX3_measure_55 : decode cX3_measure 55 = .ok (.if_icmp .ge 86, 3) := by decide +kernel
theorem dX3_measure_58 : decode cX3_measure 58 = .ok (.aload_n 0, 1) := by decide +kernel
theorem dX3_measure_59 : decode cX3_measure 59 = .ok (.iload_n 1, 1) := by decide +kernel
theorem dX3_measure_60 : decode cX3_measure 60 = .ok (.iload 4, 2) := by decide +kernel
theorem dX3_measure_62 : decode cX3_measure 62 = .ok (.iload 5, 2) := by decide +kernel
theorem dX3_measure_64 : decode cX3_measure 64 = .ok (.invokevirtual 145, 3) := by decide +kernel
theorem dX3_measure_67 : decode cX3_measure 67 = .ok (.istore 6, 2) := by decide +kernel
theorem dX3_measure_69 : decode cX3_measure 69 = .ok (.iload 6, 2) := by decide +kernel
theorem dX3_measure_71 : decode cX3_measure 71 = .ok (.ifCond .le 64, 3) := by decide +kernel
theorem dX3_measure_74 : decode cX3_measure 74 = .ok (.aload_n 0, 1) := by decide +kernel
theorem dX3_measure_75 : decode cX3_measure 75 = .ok (.getfield 74, 3) := by decide +kernel
theorem dX3_measure_78 : decode cX3_measure 78 = .ok (.iload 5, 2) := by decide +kernel
theorem dX3_measure_80 : decode cX3_measure 80 = .ok (.iaload, 1) := by decide +kernel
theorem dX3_measure_81 : decode cX3_measure 81 = .ok (.iconst (-1), 1) := by decide +kernel
theorem dX3_measure_82 : decode cX3_measure 82 = .ok (.if_icmp .eq 53, 3) := by decide +kernel
theorem dX3_measure_85 : decode cX3_measure 85 = .ok (.aload_n 0, 1) := by decide +kernel
theorem dX3_measure_86 : decode cX3_measure 86 = .ok (.getfield 74, 3) := by decide +kernel
theorem dX3_measure_89 : decode cX3_measure 89 = .ok (.iload 4, 2) := by decide +kernel
theorem dX3_measure_91 : decode cX3_measure 91 = .ok (.iaload, 1) := by decide +kernel
theorem dX3_measure_92 : decode cX3_measure 92 = .ok (.iconst (-1), 1) := by decide +kernel
theorem dX3_measure_93 : decode cX3_measure 93 = .ok (.if_icmp .eq 23, 3) := by decide +kernel
theorem dX3_measure_96 : decode cX3_measure 96 = .ok (.aload_n 0, 1) := by decide +kernel
theorem dX3_measure_97 : decode cX3_measure 97 = .ok (.getfield 74, 3) := by decide +kernel
theorem dX3_measure_100 : decode cX3_measure 100 = .ok (.iload 5, 2) := by decide +kernel
theorem dX3_measure_102 : decode cX3_measure 102 = .ok (.iaload, 1) := by decide +kernel
theorem dX3_measure_103 : decode cX3_measure 103 = .ok (.iload 6, 2) := by decide +kernel
theorem dX3_measure_105 : decode cX3_measure 105 = .ok (.iadd, 1) := by decide +kernel
theorem dX3_measure_106 : decode cX3_measure 106 = .ok (.aload_n 0, 1) := by decide +kernel
theorem dX3_measure_107 : decode cX3_measure 107 = .ok (.getfield 74, 3) := by decide +kernel
theorem dX3_measure_110 : decode cX3_measure 110 = .ok (.iload 4, 2) := by decide +kernel
theorem dX3_measure_112 : decode cX3_measure 112 = .ok (.iaload, 1) := by decide +kernel
theorem dX3_measure_113 : decode cX3_measure 113 = .ok (.if_icmp .ge 22, 3) := by decide +kernel
theorem dX3_measure_116 : decode cX3_measure 116 = .ok (.aload_n 0, 1) := by decide +kernel
theorem dX3_measure_117 : decode cX3_measure 117 = .ok (.getfield 74, 3) := by decide +kernel
theorem dX3_measure_120 : decode cX3_measure 120 = .ok (.iload 4, 2) := by decide +kernel
theorem dX3_measure_122 : decode cX3_measure 122 = .ok (.aload_n 0, 1) := by decide +kernel
theorem dX3_measure_123 : decode cX3_measure 123 = .ok (.getfield 74, 3) := by decide +kernel
theorem dX3_measure_126 : decode cX3_measure 126 = .ok (.iload 5, 2) := by decide +kernel
theorem dX3_measure_128 : decode cX3_measure 128 = .ok (.iaload, 1) := by decide +kernel
theorem dX3_measure_129 : decode cX3_measure 129 = .ok (.iload 6, 2) := by decide +kernel
theorem dX3_measure_131 : decode cX3_measure 131 = .ok (.iadd, 1) := by decide +kernel
theorem dX3_measure_132 : decode cX3_measure 132 = .ok (.iastore, 1) := by decide +kernel
theorem dX3_measure_133 : decode cX3_measure 133 = .ok (.iconst 1, 1) := by decide +kernel
theorem dX3_measure_134 : decode cX3_measure 134 = .ok (.istore_n 3, 1) := by decide +kernel
theorem dX3_measure_135 : decode cX3_measure 135 = .ok (.iinc 5 1, 3) := by decide +kernel
theorem dX3_measure_138 : decode cX3_measure 138 = .ok (.goto (-87), 3) := by decide +kernel
theorem dX3_measure_141 : decode cX3_measure 141 = .ok (.iinc 4 1, 3) := by decide +kernel
theorem dX3_measure_144 : decode cX3_measure 144 = .ok (.goto (-103), 3) := by decide +kernel
theorem dX3_measure_147 : decode cX3_measure 147 = .ok (.goto (-115), 3) := by decide +kernel
theorem dX3_measure_150 : decode cX3_measure 150 = .ok (.return_, 1) := by decide +kernel
theorem dX3_nextOf_0 : decode cX3_nextOf 0 = .ok (.aload_n 0, 1) := by decide +kernel
theorem dX3_nextOf_1 : decode cX3_nextOf 1 = .ok (.iload_n 1, 1) := by decide +kernel
theorem dX3_nextOf_2 : decode cX3_nextOf 2 = .ok (.iload_n 2, 1) := by decide +kernel
theorem dX3_nextOf_3 : decode cX3_nextOf 3 = .ok (.invokevirtual 149, 3) := by decide +kernel
theorem dX3_nextOf_6 : decode cX3_nextOf 6 = .ok (.aload_n 0, 1) := by decide +kernel
theorem dX3_nextOf_7 : decode cX3_nextOf 7 = .ok (.getfield 74, 3) := by decide +kernel
theorem dX3_nextOf_10 : decode cX3_nextOf 10 = .ok (.iload_n 1, 1) := by decide +kernel
theorem dX3_nextOf_11 : decode cX3_nextOf 11 = .ok (.iaload, 1) := by decide +kernel
theorem dX3_nextOf_12 : decode cX3_nextOf 12 = .ok (.iconst (-1), 1) := by decide +kernel
theorem dX3_nextOf_13 : decode cX3_nextOf 13 = .ok (.if_icmp .ne 5, 3) := by decide +kernel
theorem dX3_nextOf_16 : decode cX3_nextOf 16 = .ok (.iconst (-1), 1) := by decide +kernel
theorem dX3_nextOf_17 : decode cX3_nextOf 17 = .ok (.ireturn, 1) := by decide +kernel
theorem dX3_nextOf_18 : decode cX3_nextOf 18 = .ok (.iconst (-1), 1) := by decide +kernel
theorem dX3_nextOf_19 : decode cX3_nextOf 19 = .ok (.istore_n 3, 1) := by decide +kernel
theorem dX3_nextOf_20 : decode cX3_nextOf 20 = .ok (.bipush 7, 2) := by decide +kernel
theorem dX3_nextOf_22 : decode cX3_nextOf 22 = .ok (.istore 4, 2) := by decide +kernel
theorem dX3_nextOf_24 : decode cX3_nextOf 24 = .ok (.iload 4, 2) := by decide +kernel
theorem dX3_nextOf_26 : decode cX3_nextOf 26 = .ok (.ifCond .lt 61, 3) := by decide +kernel
theorem dX3_nextOf_29 : decode cX3_nextOf 29 = .ok (.aload_n 0, 1) := by decide +kernel
theorem dX3_nextOf_30 : decode cX3_nextOf 30 = .ok (.iload_n 1, 1) := by decide +kernel
theorem dX3_nextOf_31 : decode cX3_nextOf 31 = .ok (.iload_n 1, 1) := by decide +kernel
theorem dX3_nextOf_32 : decode cX3_nextOf 32 = .ok (.iload 4, 2) := by decide +kernel
theorem dX3_nextOf_34 : decode cX3_nextOf 34 = .ok (.invokevirtual 145, 3) := by decide +kernel
theorem dX3_nextOf_37 : decode cX3_nextOf 37 = .ok (.istore 5, 2) := by decide +kernel
theorem dX3_nextOf_39 : decode cX3_nextOf 39 = .ok (.iload 5, 2) := by decide +kernel
theorem dX3_nextOf_41 : decode cX3_nextOf 41 = .ok (.ifCond .le 38, 3) := by decide +kernel
theorem dX3_nextOf_44 : decode cX3_nextOf 44 = .ok (.aload_n 0, 1) := by decide +kernel
theorem dX3_nextOf_45 : decode cX3_nextOf 45 = .ok (.getfield 74, 3) := by decide +kernel
theorem dX3_nextOf_48 : decode cX3_nextOf 48 = .ok (.iload 4, 2) := by decide +kernel
theorem dX3_nextOf_50 : decode cX3_nextOf 50 = .ok (.iaload, 1) := by decide +kernel
theorem dX3_nextOf_51 : decode cX3_nextOf 51 = .ok (.iconst (-1), 1) := by decide +kernel
theorem dX3_nextOf_52 : decode cX3_nextOf 52 = .ok (.if_icmp .eq 27, 3) := by decide +kernel
theorem dX3_nextOf_55 : decode cX3_nextOf 55 = .ok (.aload_n 0, 1) := by decide +kernel
theorem dX3_nextOf_56 : decode cX3_nextOf 56 = .ok (.getfield 74, 3) := by decide +kernel
theorem dX3_nextOf_59 : decode cX3_nextOf 59 = .ok (.iload 4, 2) := by decide +kernel
theorem dX3_nextOf_61 : decode cX3_nextOf 61 = .ok (.iaload, 1) := by decide +kernel
theorem dX3_nextOf_62 : decode cX3_nextOf 62 = .ok (.iload 5, 2) := by decide +kernel
theorem dX3_nextOf_64 : decode cX3_nextOf 64 = .ok (.iadd, 1) := by decide +kernel
theorem dX3_nextOf_65 : decode cX3_nextOf 65 = .ok (.aload_n 0, 1) := by decide +kernel
theorem dX3_nextOf_66 : decode cX3_nextOf 66 = .ok (.getfield 74, 3) := by decide +kernel
theorem dX3_nextOf_69 : decode cX3_nextOf 69 = .ok (.iload_n 1, 1) := by decide +kernel
theorem dX3_nextOf_70 : decode cX3_nextOf 70 = .ok (.iaload, 1) := by decide +kernel
theorem dX3_nextOf_71 : decode cX3_nextOf 71 = .ok (.if_icmp .ne 8, 3) := by decide +kernel
theorem dX3_nextOf_74 : decode cX3_nextOf 74 = .ok (.iload 4, 2) := by decide +kernel
theorem dX3_nextOf_76 : decode cX3_nextOf 76 = .ok (.goto 4, 3) := by decide +kernel
theorem dX3_nextOf_79 : decode cX3_nextOf 79 = .ok (.iload_n 3, 1) := by decide +kernel
theorem dX3_nextOf_80 : decode cX3_nextOf 80 = .ok (.istore_n 3, 1) := by decide +kernel
theorem dX3_nextOf_81 : decode cX3_nextOf 81 = .ok (.iinc 4 (-1), 3) := by decide +kernel
theorem dX3_nextOf_84 : decode cX3_nextOf 84 = .ok (.goto (-60), 3) := by decide +kernel
theorem dX3_nextOf_87 : decode cX3_nextOf 87 = .ok (.iload_n 3, 1) := by decide +kernel
theorem dX3_nextOf_88 : decode cX3_nextOf 88 = .ok (.ireturn, 1) := by decide +kernel
theorem dX3_distance_0 : decode cX3_distance 0 = .ok (.aload_n 0, 1) := by decide +kernel
theorem dX3_distance_1 : decode cX3_distance 1 = .ok (.iconst 0, 1) := by decide +kernel
theorem dX3_distance_2 : decode cX3_distance 2 = .ok (.putfield 80, 3) := by decide +kernel
theorem dX3_distance_5 : decode cX3_distance 5 = .ok (.iload_n 1, 1) := by decide +kernel
theorem dX3_distance_6 : decode cX3_distance 6 = .ok (.invokestatic 88, 3) := by decide +kernel
theorem dX3_distance_9 : decode cX3_distance 9 = .ok (.ifCond .eq 19, 3) := by decide +kernel
theorem dX3_distance_12 : decode cX3_distance 12 = .ok (.iload_n 2, 1) := by decide +kernel
theorem dX3_distance_13 : decode cX3_distance 13 = .ok (.invokestatic 88, 3) := by decide +kernel
theorem dX3_distance_16 : decode cX3_distance 16 = .ok (.ifCond .eq 12, 3) := by decide +kernel
theorem dX3_distance_19 : decode cX3_distance 19 = .ok (.aload_n 0, 1) := by decide +kernel
theorem dX3_distance_20 : decode cX3_distance 20 = .ok (.getfield 7, 3) := by decide +kernel
theorem dX3_distance_23 : decode cX3_distance 23 = .ok (.iload_n 1, 1) := by decide +kernel
theorem dX3_distance_24 : decode cX3_distance 24 = .ok (.baload, 1) := by decide +kernel
theorem dX3_distance_25 : decode cX3_distance 25 = .ok (.ifCond .ne 5, 3) := by decide +kernel
theorem dX3_distance_28 : decode cX3_distance 28 = .ok (.iconst (-1), 1) := by decide +kernel
theorem dX3_distance_29 : decode cX3_distance 29 = .ok (.ireturn, 1) := by decide +kernel
theorem dX3_distance_30 : decode cX3_distance 30 = .ok (.aload_n 0, 1) := by decide +kernel
theorem dX3_distance_31 : decode cX3_distance 31 = .ok (.iload_n 1, 1) := by decide +kernel
theorem dX3_distance_32 : decode cX3_distance 32 = .ok (.iload_n 2, 1) := by decide +kernel
theorem dX3_distance_33 : decode cX3_distance 33 = .ok (.invokevirtual 149, 3) := by decide +kernel
theorem dX3_distance_36 : decode cX3_distance 36 = .ok (.aload_n 0, 1) := by decide +kernel
theorem dX3_distance_37 : decode cX3_distance 37 = .ok (.getfield 74, 3) := by decide +kernel
theorem dX3_distance_40 : decode cX3_distance 40 = .ok (.iload_n 1, 1) := by decide +kernel
theorem dX3_distance_41 : decode cX3_distance 41 = .ok (.iaload, 1) := by decide +kernel
theorem dX3_distance_42 : decode cX3_distance 42 = .ok (.ireturn, 1) := by decide +kernel
theorem dX3_next_0 : decode cX3_next 0 = .ok (.aload_n 0, 1) := by decide +kernel
theorem dX3_next_1 : decode cX3_next 1 = .ok (.iconst 0, 1) := by decide +kernel
theorem dX3_next_2 : decode cX3_next 2 = .ok (.putfield 80, 3) := by decide +kernel
theorem dX3_next_5 : decode cX3_next 5 = .ok (.iload_n 1, 1) := by decide +kernel
theorem dX3_next_6 : decode cX3_next 6 = .ok (.invokestatic 88, 3) := by decide +kernel
theorem dX3_next_9 : decode cX3_next 9 = .ok (.ifCond .eq 24, 3) := by decide +kernel
theorem dX3_next_12 : decode cX3_next 12 = .ok (.iload_n 2, 1) := by decide +kernel
theorem dX3_next_13 : decode cX3_next 13 = .ok (.invokestatic 88, 3) := by decide +kernel
theorem dX3_next_16 : decode cX3_next 16 = .ok (.ifCond .eq 17, 3) := by decide +kernel
theorem dX3_next_19 : decode cX3_next 19 = .ok (.iload_n 1, 1) := by decide +kernel
theorem dX3_next_20 : decode cX3_next 20 = .ok (.iload_n 2, 1) := by decide +kernel
theorem dX3_next_21 : decode cX3_next 21 = .ok (.if_icmp .eq 12, 3) := by decide +kernel
theorem dX3_next_24 : decode cX3_next 24 = .ok (.aload_n 0, 1) := by decide +kernel
theorem dX3_next_25 : decode cX3_next 25 = .ok (.getfield 7, 3) := by decide +kernel
theorem dX3_next_28 : decode cX3_next 28 = .ok (.iload_n 1, 1) := by decide +kernel
theorem dX3_next_29 : decode cX3_next 29 = .ok (.baload, 1) := by decide +kernel
theorem dX3_next_30 : decode cX3_next 30 = .ok (.ifCond .ne 5, 3) := by decide +kernel
theorem dX3_next_33 : decode cX3_next 33 = .ok (.iconst (-1), 1) := by decide +kernel
theorem dX3_next_34 : decode cX3_next 34 = .ok (.ireturn, 1) := by decide +kernel
theorem dX3_next_35 : decode cX3_next 35 = .ok (.aload_n 0, 1) := by decide +kernel
theorem dX3_next_36 : decode cX3_next 36 = .ok (.iload_n 1, 1) := by decide +kernel
theorem dX3_next_37 : decode cX3_next 37 = .ok (.iload_n 2, 1) := by decide +kernel
theorem dX3_next_38 : decode cX3_next 38 = .ok (.invokevirtual 152, 3) := by decide +kernel
theorem dX3_next_41 : decode cX3_next 41 = .ok (.ireturn, 1) := by decide +kernel
theorem dX3_isAt_0 : decode cX3_isAt 0 = .ok (.aload_n 0, 1) := by decide +kernel
theorem dX3_isAt_1 : decode cX3_isAt 1 = .ok (.getfield 71, 3) := by decide +kernel
theorem dX3_isAt_4 : decode cX3_isAt 4 = .ok (.bipush 40, 2) := by decide +kernel
theorem dX3_isAt_6 : decode cX3_isAt 6 = .ok (.iload_n 1, 1) := by decide +kernel
theorem dX3_isAt_7 : decode cX3_isAt 7 = .ok (.imul, 1) := by decide +kernel
theorem dX3_isAt_8 : decode cX3_isAt 8 = .ok (.aload_n 0, 1) := by decide +kernel
theorem dX3_isAt_9 : decode cX3_isAt 9 = .ok (.getfield 68, 3) := by decide +kernel
theorem dX3_isAt_12 : decode cX3_isAt 12 = .ok (.iload_n 1, 1) := by decide +kernel
theorem dX3_isAt_13 : decode cX3_isAt 13 = .ok (.iaload, 1) := by decide +kernel
theorem dX3_isAt_14 : decode cX3_isAt 14 = .ok (.iadd, 1) := by decide +kernel
theorem dX3_isAt_15 : decode cX3_isAt 15 = .ok (.iload_n 2, 1) := by decide +kernel
theorem dX3_isAt_16 : decode cX3_isAt 16 = .ok (.iastore, 1) := by decide +kernel
theorem dX3_isAt_17 : decode cX3_isAt 17 = .ok (.aload_n 0, 1) := by decide +kernel
theorem dX3_isAt_18 : decode cX3_isAt 18 = .ok (.getfield 68, 3) := by decide +kernel
theorem dX3_isAt_21 : decode cX3_isAt 21 = .ok (.iload_n 1, 1) := by decide +kernel
theorem dX3_isAt_22 : decode cX3_isAt 22 = .ok (.dup2, 1) := by decide +kernel
theorem dX3_isAt_23 : decode cX3_isAt 23 = .ok (.iaload, 1) := by decide +kernel
theorem dX3_isAt_24 : decode cX3_isAt 24 = .ok (.iconst 1, 1) := by decide +kernel
theorem dX3_isAt_25 : decode cX3_isAt 25 = .ok (.iadd, 1) := by decide +kernel
theorem dX3_isAt_26 : decode cX3_isAt 26 = .ok (.iastore, 1) := by decide +kernel
theorem dX3_isAt_27 : decode cX3_isAt 27 = .ok (.iload_n 2, 1) := by decide +kernel
theorem dX3_isAt_28 : decode cX3_isAt 28 = .ok (.aload_n 0, 1) := by decide +kernel
theorem dX3_isAt_29 : decode cX3_isAt 29 = .ok (.getfield 50, 3) := by decide +kernel
theorem dX3_isAt_32 : decode cX3_isAt 32 = .ok (.iload_n 1, 1) := by decide +kernel
theorem dX3_isAt_33 : decode cX3_isAt 33 = .ok (.iaload, 1) := by decide +kernel
theorem dX3_isAt_34 : decode cX3_isAt 34 = .ok (.if_icmp .ne 11, 3) := by decide +kernel
theorem dX3_isAt_37 : decode cX3_isAt 37 = .ok (.aload_n 0, 1) := by decide +kernel
theorem dX3_isAt_38 : decode cX3_isAt 38 = .ok (.getfield 56, 3) := by decide +kernel
theorem dX3_isAt_41 : decode cX3_isAt 41 = .ok (.iload_n 1, 1) := by decide +kernel
theorem dX3_isAt_42 : decode cX3_isAt 42 = .ok (.iconst 1, 1) := by decide +kernel
theorem dX3_isAt_43 : decode cX3_isAt 43 = .ok (.iastore, 1) := by decide +kernel
theorem dX3_isAt_44 : decode cX3_isAt 44 = .ok (.return_, 1) := by decide +kernel
theorem dX3_isAt_45 : decode cX3_isAt 45 = .ok (.aload_n 0, 1) := by decide +kernel
theorem dX3_isAt_46 : decode cX3_isAt 46 = .ok (.getfield 53, 3) := by decide +kernel
theorem dX3_isAt_49 : decode cX3_isAt 49 = .ok (.iload_n 1, 1) := by decide +kernel
theorem dX3_isAt_50 : decode cX3_isAt 50 = .ok (.iaload, 1) := by decide +kernel
theorem dX3_isAt_51 : decode cX3_isAt 51 = .ok (.ifCond .ne 11, 3) := by decide +kernel
theorem dX3_isAt_54 : decode cX3_isAt 54 = .ok (.aload_n 0, 1) := by decide +kernel
theorem dX3_isAt_55 : decode cX3_isAt 55 = .ok (.getfield 56, 3) := by decide +kernel
theorem dX3_isAt_58 : decode cX3_isAt 58 = .ok (.iload_n 1, 1) := by decide +kernel
theorem dX3_isAt_59 : decode cX3_isAt 59 = .ok (.iconst 2, 1) := by decide +kernel
theorem dX3_isAt_60 : decode cX3_isAt 60 = .ok (.iastore, 1) := by decide +kernel
theorem dX3_isAt_61 : decode cX3_isAt 61 = .ok (.return_, 1) := by decide +kernel
theorem dX3_isAt_62 : decode cX3_isAt 62 = .ok (.aload_n 0, 1) := by decide +kernel
theorem dX3_isAt_63 : decode cX3_isAt 63 = .ok (.iload_n 2, 1) := by decide +kernel
theorem dX3_isAt_64 : decode cX3_isAt 64 = .ok (.aload_n 0, 1) := by decide +kernel
theorem dX3_isAt_65 : decode cX3_isAt 65 = .ok (.getfield 50, 3) := by decide +kernel
theorem dX3_isAt_68 : decode cX3_isAt 68 = .ok (.iload_n 1, 1) := by decide +kernel
theorem dX3_isAt_69 : decode cX3_isAt 69 = .ok (.iaload, 1) := by decide +kernel
theorem dX3_isAt_70 : decode cX3_isAt 70 = .ok (.invokevirtual 152, 3) := by decide +kernel
theorem dX3_isAt_73 : decode cX3_isAt 73 = .ok (.istore_n 3, 1) := by decide +kernel
theorem dX3_isAt_74 : decode cX3_isAt 74 = .ok (.iload_n 3, 1) := by decide +kernel
theorem dX3_isAt_75 : decode cX3_isAt 75 = .ok (.iconst (-1), 1) := by decide +kernel
theorem dX3_isAt_76 : decode cX3_isAt 76 = .ok (.if_icmp .eq 12, 3) := by decide +kernel
theorem dX3_isAt_79 : decode cX3_isAt 79 = .ok (.aload_n 0, 1) := by decide +kernel
theorem dX3_isAt_80 : decode cX3_isAt 80 = .ok (.iload_n 2, 1) := by decide +kernel
theorem dX3_isAt_81 : decode cX3_isAt 81 = .ok (.iload_n 3, 1) := by decide +kernel
theorem dX3_isAt_82 : decode cX3_isAt 82 = .ok (.invokevirtual 92, 3) := by decide +kernel
theorem dX3_isAt_85 : decode cX3_isAt 85 = .ok (.ifCond .ne 11, 3) := by decide +kernel
theorem dX3_isAt_88 : decode cX3_isAt 88 = .ok (.aload_n 0, 1) := by decide +kernel
theorem dX3_isAt_89 : decode cX3_isAt 89 = .ok (.getfield 56, 3) := by decide +kernel
theorem dX3_isAt_92 : decode cX3_isAt 92 = .ok (.iload_n 1, 1) := by decide +kernel
theorem dX3_isAt_93 : decode cX3_isAt 93 = .ok (.iconst 3, 1) := by decide +kernel
theorem dX3_isAt_94 : decode cX3_isAt 94 = .ok (.iastore, 1) := by decide +kernel
theorem dX3_isAt_95 : decode cX3_isAt 95 = .ok (.return_, 1) := by decide +kernel
theorem dX3_isAt_96 : decode cX3_isAt 96 = .ok (.aload_n 0, 1) := by decide +kernel
theorem dX3_isAt_97 : decode cX3_isAt 97 = .ok (.getfield 53, 3) := by decide +kernel
theorem dX3_isAt_100 : decode cX3_isAt 100 = .ok (.iload_n 1, 1) := by decide +kernel
theorem dX3_isAt_101 : decode cX3_isAt 101 = .ok (.dup2, 1) := by decide +kernel
theorem dX3_isAt_102 : decode cX3_isAt 102 = .ok (.iaload, 1) := by decide +kernel
theorem dX3_isAt_103 : decode cX3_isAt 103 = .ok (.iconst 1, 1) := by decide +kernel
theorem dX3_isAt_104 : decode cX3_isAt 104 = .ok (.isub, 1) := by decide +kernel
theorem dX3_isAt_105 : decode cX3_isAt 105 = .ok (.iastore, 1) := by decide +kernel
theorem dX3_isAt_106 : decode cX3_isAt 106 = .ok (.aload_n 0, 1) := by decide +kernel
theorem dX3_isAt_107 : decode cX3_isAt 107 = .ok (.getfield 59, 3) := by decide +kernel
theorem dX3_isAt_110 : decode cX3_isAt 110 = .ok (.iload_n 1, 1) := by decide +kernel
theorem dX3_isAt_111 : decode cX3_isAt 111 = .ok (.iload_n 2, 1) := by decide +kernel
theorem dX3_isAt_112 : decode cX3_isAt 112 = .ok (.iastore, 1) := by decide +kernel
theorem dX3_isAt_113 : decode cX3_isAt 113 = .ok (.aload_n 0, 1) := by decide +kernel
theorem dX3_isAt_114 : decode cX3_isAt 114 = .ok (.getfield 62, 3) := by decide +kernel
theorem dX3_isAt_117 : decode cX3_isAt 117 = .ok (.iload_n 1, 1) := by decide +kernel
theorem dX3_isAt_118 : decode cX3_isAt 118 = .ok (.iload_n 3, 1) := by decide +kernel
theorem dX3_isAt_119 : decode cX3_isAt 119 = .ok (.iastore, 1) := by decide +kernel
theorem dX3_isAt_120 : decode cX3_isAt 120 = .ok (.aload_n 0, 1) := by decide +kernel
theorem dX3_isAt_121 : decode cX3_isAt 121 = .ok (.getfield 65, 3) := by decide +kernel
theorem dX3_isAt_124 : decode cX3_isAt 124 = .ok (.iload_n 1, 1) := by decide +kernel
theorem dX3_isAt_125 : decode cX3_isAt 125 = .ok (.aload_n 0, 1) := by decide +kernel
theorem dX3_isAt_126 : decode cX3_isAt 126 = .ok (.getfield 96, 3) := by decide +kernel
theorem dX3_isAt_129 : decode cX3_isAt 129 = .ok (.aload_n 0, 1) := by decide +kernel
theorem dX3_isAt_130 : decode cX3_isAt 130 = .ok (.getfield 23, 3) := by decide +kernel
theorem dX3_isAt_133 : decode cX3_isAt 133 = .ok (.bipush 8, 2) := by decide +kernel
theorem dX3_isAt_135 : decode cX3_isAt 135 = .ok (.iload_n 2, 1) := by decide +kernel
theorem dX3_isAt_136 : decode cX3_isAt 136 = .ok (.imul, 1) := by decide +kernel
theorem dX3_isAt_137 : decode cX3_isAt 137 = .ok (.iload_n 3, 1) := by decide +kernel
theorem dX3_isAt_138 : decode cX3_isAt 138 = .ok (.iadd, 1) := by decide +kernel
theorem dX3_isAt_139 : decode cX3_isAt 139 = .ok (.iaload, 1) := by decide +kernel
theorem dX3_isAt_140 : decode cX3_isAt 140 = .ok (.iadd, 1) := by decide +kernel
theorem dX3_isAt_141 : decode cX3_isAt 141 = .ok (.iastore, 1) := by decide +kernel
theorem dX3_isAt_142 : decode cX3_isAt 142 = .ok (.return_, 1) := by decide +kernel
theorem dX3_send_0 : decode cX3_send 0 = .ok (.iload_n 1, 1) := by decide +kernel
theorem dX3_send_1 : decode cX3_send 1 = .ok (.invokestatic 88, 3) := by decide +kernel
theorem dX3_send_4 : decode cX3_send 4 = .ok (.ifCond .eq 24, 3) := by decide +kernel
theorem dX3_send_7 : decode cX3_send 7 = .ok (.iload_n 2, 1) := by decide +kernel
theorem dX3_send_8 : decode cX3_send 8 = .ok (.invokestatic 88, 3) := by decide +kernel
theorem dX3_send_11 : decode cX3_send 11 = .ok (.ifCond .eq 17, 3) := by decide +kernel
theorem dX3_send_14 : decode cX3_send 14 = .ok (.iload_n 3, 1) := by decide +kernel
theorem dX3_send_15 : decode cX3_send 15 = .ok (.iconst 0, 1) := by decide +kernel
theorem dX3_send_16 : decode cX3_send 16 = .ok (.bipush 30, 2) := by decide +kernel
theorem dX3_send_18 : decode cX3_send 18 = .ok (.invokestatic 84, 3) := by decide +kernel
theorem dX3_send_21 : decode cX3_send 21 = .ok (.ifCond .eq 7, 3) := by decide +kernel
theorem dX3_send_24 : decode cX3_send 24 = .ok (.iconst 1, 1) := by decide +kernel
theorem dX3_send_25 : decode cX3_send 25 = .ok (.goto 4, 3) := by decide +kernel
theorem dX3_send_28 : decode cX3_send 28 = .ok (.iconst 0, 1) := by decide +kernel
theorem dX3_send_29 : decode cX3_send 29 = .ok (.istore 4, 2) := by decide +kernel
theorem dX3_send_31 : decode cX3_send 31 = .ok (.aload_n 0, 1) := by decide +kernel
theorem dX3_send_32 : decode cX3_send 32 = .ok (.iload 4, 2) := by decide +kernel
theorem dX3_send_34 : decode cX3_send 34 = .ok (.iload 4, 2) := by decide +kernel
theorem dX3_send_36 : decode cX3_send 36 = .ok (.ifCond .eq 25, 3) := by decide +kernel
theorem dX3_send_39 : decode cX3_send 39 = .ok (.aload_n 0, 1) := by decide +kernel
theorem dX3_send_40 : decode cX3_send 40 = .ok (.getfield 7, 3) := by decide +kernel
theorem dX3_send_43 : decode cX3_send 43 = .ok (.iload_n 1, 1) := by decide +kernel
theorem dX3_send_44 : decode cX3_send 44 = .ok (.baload, 1) := by decide +kernel
theorem dX3_send_45 : decode cX3_send 45 = .ok (.ifCond .eq 16, 3) := by decide +kernel
theorem dX3_send_48 : decode cX3_send 48 = .ok (.aload_n 0, 1) := by decide +kernel
theorem dX3_send_49 : decode cX3_send 49 = .ok (.getfield 107, 3) := by decide +kernel
theorem dX3_send_52 : decode cX3_send 52 = .ok (.bipush 20, 2) := by decide +kernel
theorem dX3_send_54 : decode cX3_send 54 = .ok (.if_icmp .ge 7, 3) := by decide +kernel
theorem dX3_send_57 : decode cX3_send 57 = .ok (.iconst 1, 1) := by decide +kernel
theorem dX3_send_58 : decode cX3_send 58 = .ok (.goto 4, 3) := by decide +kernel
theorem dX3_send_61 : decode cX3_send 61 = .ok (.iconst 0, 1) := by decide +kernel
theorem dX3_send_62 : decode cX3_send 62 = .ok (.invokevirtual 117, 3) := by decide +kernel
theorem dX3_send_65 : decode cX3_send 65 = .ok (.ifCond .ne 5, 3) := by decide +kernel
theorem dX3_send_68 : decode cX3_send 68 = .ok (.iconst 0, 1) := by decide +kernel
theorem dX3_send_69 : decode cX3_send 69 = .ok (.ireturn, 1) := by decide +kernel
theorem dX3_send_70 : decode cX3_send 70 = .ok (.aload_n 0, 1) := by decide +kernel
theorem dX3_send_71 : decode cX3_send 71 = .ok (.getfield 107, 3) := by decide +kernel
theorem dX3_send_74 : decode cX3_send 74 = .ok (.istore 5, 2) := by decide +kernel
theorem dX3_send_76 : decode cX3_send 76 = .ok (.aload_n 0, 1) := by decide +kernel
theorem dX3_send_77 : decode cX3_send 77 = .ok (.dup, 1) := by decide +kernel
theorem dX3_send_78 : decode cX3_send 78 = .ok (.getfield 107, 3) := by decide +kernel
theorem dX3_send_81 : decode cX3_send 81 = .ok (.iconst 1, 1) := by decide +kernel
theorem dX3_send_82 : decode cX3_send 82 = .ok (.iadd, 1) := by decide +kernel
theorem dX3_send_83 : decode cX3_send 83 = .ok (.putfield 107, 3) := by decide +kernel
theorem dX3_send_86 : decode cX3_send 86 = .ok (.aload_n 0, 1) := by decide +kernel
theorem dX3_send_87 : decode cX3_send 87 = .ok (.getfield 50, 3) := by decide +kernel
theorem dX3_send_90 : decode cX3_send 90 = .ok (.iload 5, 2) := by decide +kernel
theorem dX3_send_92 : decode cX3_send 92 = .ok (.iload_n 2, 1) := by decide +kernel
theorem dX3_send_93 : decode cX3_send 93 = .ok (.iastore, 1) := by decide +kernel
theorem dX3_send_94 : decode cX3_send 94 = .ok (.aload_n 0, 1) := by decide +kernel
theorem dX3_send_95 : decode cX3_send 95 = .ok (.getfield 53, 3) := by decide +kernel
theorem dX3_send_98 : decode cX3_send 98 = .ok (.iload 5, 2) := by decide +kernel
theorem dX3_send_100 : decode cX3_send 100 = .ok (.iload_n 3, 1) := by decide +kernel
theorem dX3_send_101 : decode cX3_send 101 = .ok (.iastore, 1) := by decide +kernel
theorem dX3_send_102 : decode cX3_send 102 = .ok (.aload_n 0, 1) := by decide +kernel
theorem dX3_send_103 : decode cX3_send 103 = .ok (.iload 5, 2) := by decide +kernel
theorem dX3_send_105 : decode cX3_send 105 = .ok (.iload_n 1, 1) := by decide +kernel
theorem dX3_send_106 : decode cX3_send 106 = .ok (.invokevirtual 139, 3) := by decide +kernel
theorem dX3_send_109 : decode cX3_send 109 = .ok (.iload 5, 2) := by decide +kernel
theorem dX3_send_111 : decode cX3_send 111 = .ok (.ireturn, 1) := by decide +kernel
theorem dX3_packet_0 : decode cX3_packet 0 = .ok (.aload_n 0, 1) := by decide +kernel
theorem dX3_packet_1 : decode cX3_packet 1 = .ok (.iconst 0, 1) := by decide +kernel
theorem dX3_packet_2 : decode cX3_packet 2 = .ok (.putfield 80, 3) := by decide +kernel
theorem dX3_packet_5 : decode cX3_packet 5 = .ok (.iload_n 1, 1) := by decide +kernel
theorem dX3_packet_6 : decode cX3_packet 6 = .ok (.iconst 0, 1) := by decide +kernel
theorem dX3_packet_7 : decode cX3_packet 7 = .ok (.aload_n 0, 1) := by decide +kernel
theorem dX3_packet_8 : decode cX3_packet 8 = .ok (.getfield 107, 3) := by decide +kernel
theorem dX3_packet_11 : decode cX3_packet 11 = .ok (.iconst 1, 1) := by decide +kernel
theorem dX3_packet_12 : decode cX3_packet 12 = .ok (.isub, 1) := by decide +kernel
theorem dX3_packet_13 : decode cX3_packet 13 = .ok (.invokestatic 84, 3) := by decide +kernel
theorem dX3_packet_16 : decode cX3_packet 16 = .ok (.ifCond .ne 5, 3) := by decide +kernel
theorem dX3_packet_19 : decode cX3_packet 19 = .ok (.iconst (-1), 1) := by decide +kernel
theorem dX3_packet_20 : decode cX3_packet 20 = .ok (.ireturn, 1) := by decide +kernel
theorem dX3_packet_21 : decode cX3_packet 21 = .ok (.iload_n 2, 1) := by decide +kernel
theorem dX3_packet_22 : decode cX3_packet 22 = .ok (.bipush 10, 2) := by decide +kernel
theorem dX3_packet_24 : decode cX3_packet 24 = .ok (.if_icmp .lt 35, 3) := by decide +kernel
theorem dX3_packet_27 : decode cX3_packet 27 = .ok (.iload_n 2, 1) := by decide +kernel
theorem dX3_packet_28 : decode cX3_packet 28 = .ok (.bipush 10, 2) := by decide +kernel
theorem dX3_packet_30 : decode cX3_packet 30 = .ok (.isub, 1) := by decide +kernel
theorem dX3_packet_31 : decode cX3_packet 31 = .ok (.aload_n 0, 1) := by decide +kernel
theorem dX3_packet_32 : decode cX3_packet 32 = .ok (.getfield 68, 3) := by decide +kernel
theorem dX3_packet_35 : decode cX3_packet 35 = .ok (.iload_n 1, 1) := by decide +kernel
theorem dX3_packet_36 : decode cX3_packet 36 = .ok (.iaload, 1) := by decide +kernel
theorem dX3_packet_37 : decode cX3_packet 37 = .ok (.if_icmp .ge 20, 3) := by decide +kernel
theorem dX3_packet_40 : decode cX3_packet 40 = .ok (.aload_n 0, 1) := by decide +kernel
theorem dX3_packet_41 : decode cX3_packet 41 = .ok (.getfield 71, 3) := by decide +kernel
theorem dX3_packet_44 : decode cX3_packet 44 = .ok (.bipush 40, 2) := by decide +kernel
theorem dX3_packet_46 : decode cX3_packet 46 = .ok (.iload_n 1, 1) := by decide +kernel
theorem dX3_packet_47 : decode cX3_packet 47 = .ok (.imul, 1) := by decide +kernel
theorem dX3_packet_48 : decode cX3_packet 48 = .ok (.iload_n 2, 1) := by decide +kernel
theorem dX3_packet_49 : decode cX3_packet 49 = .ok (.iadd, 1) := by decide +kernel
theorem dX3_packet_50 : decode cX3_packet 50 = .ok (.bipush 10, 2) := by decide +kernel
theorem dX3_packet_52 : decode cX3_packet 52 = .ok (.isub, 1) := by decide +kernel
theorem dX3_packet_53 : decode cX3_packet 53 = .ok (.iaload, 1) := by decide +kernel
theorem dX3_packet_54 : decode cX3_packet 54 = .ok (.goto 4, 3) := by decide +kernel
theorem dX3_packet_57 : decode cX3_packet 57 = .ok (.iconst (-1), 1) := by decide +kernel
theorem dX3_packet_58 : decode cX3_packet 58 = .ok (.ireturn, 1) := by decide +kernel
theorem dX3_packet_59 : decode cX3_packet 59 = .ok (.iload_n 2, 1) := by decide +kernel
theorem dX3_packet_60 : decode cX3_packet 60 = .ok (.ifCond .ne 12, 3) := by decide +kernel
theorem dX3_packet_63 : decode cX3_packet 63 = .ok (.aload_n 0, 1) := by decide +kernel
theorem dX3_packet_64 : decode cX3_packet 64 = .ok (.getfield 56, 3) := by decide +kernel
theorem dX3_packet_67 : decode cX3_packet 67 = .ok (.iload_n 1, 1) := by decide +kernel
theorem dX3_packet_68 : decode cX3_packet 68 = .ok (.iaload, 1) := by decide +kernel
theorem dX3_packet_69 : decode cX3_packet 69 = .ok (.goto 32, 3) := by decide +kernel
theorem dX3_packet_72 : decode cX3_packet 72 = .ok (.iload_n 2, 1) := by decide +kernel
theorem dX3_packet_73 : decode cX3_packet 73 = .ok (.iconst 1, 1) := by decide +kernel
theorem dX3_packet_74 : decode cX3_packet 74 = .ok (.if_icmp .ne 12, 3) := by decide +kernel
theorem dX3_packet_77 : decode cX3_packet 77 = .ok (.aload_n 0, 1) := by decide +kernel
theorem dX3_packet_78 : decode cX3_packet 78 = .ok (.getfield 53, 3) := by decide +kernel
theorem dX3_packet_81 : decode cX3_packet 81 = .ok (.iload_n 1, 1) := by decide +kernel
theorem dX3_packet_82 : decode cX3_packet 82 = .ok (.iaload, 1) := by decide +kernel
theorem dX3_packet_83 : decode cX3_packet 83 = .ok (.goto 18, 3) := by decide +kernel
theorem dX3_packet_86 : decode cX3_packet 86 = .ok (.iload_n 2, 1) := by decide +kernel
theorem dX3_packet_87 : decode cX3_packet 87 = .ok (.iconst 2, 1) := by decide +kernel
theorem dX3_packet_88 : decode cX3_packet 88 = .ok (.if_icmp .ne 12, 3) := by decide +kernel
theorem dX3_packet_91 : decode cX3_packet 91 = .ok (.aload_n 0, 1) := by decide +kernel
theorem dX3_packet_92 : decode cX3_packet 92 = .ok (.getfield 68, 3) := by decide +kernel
theorem dX3_packet_95 : decode cX3_packet 95 = .ok (.iload_n 1, 1) := by decide +kernel
theorem dX3_packet_96 : decode cX3_packet 96 = .ok (.iaload, 1) := by decide +kernel
theorem dX3_packet_97 : decode cX3_packet 97 = .ok (.goto 4, 3) := by decide +kernel
theorem dX3_packet_100 : decode cX3_packet 100 = .ok (.iconst (-1), 1) := by decide +kernel
theorem dX3_packet_101 : decode cX3_packet 101 = .ok (.ireturn, 1) := by decide +kernel
theorem dX3_news_0 : decode cX3_news 0 = .ok (.aload_n 0, 1) := by decide +kernel
theorem dX3_news_1 : decode cX3_news 1 = .ok (.iconst 0, 1) := by decide +kernel
theorem dX3_news_2 : decode cX3_news 2 = .ok (.putfield 80, 3) := by decide +kernel
theorem dX3_news_5 : decode cX3_news 5 = .ok (.iload_n 1, 1) := by decide +kernel
theorem dX3_news_6 : decode cX3_news 6 = .ok (.invokestatic 88, 3) := by decide +kernel
theorem dX3_news_9 : decode cX3_news 9 = .ok (.ifCond .eq 24, 3) := by decide +kernel
theorem dX3_news_12 : decode cX3_news 12 = .ok (.iload_n 2, 1) := by decide +kernel
theorem dX3_news_13 : decode cX3_news 13 = .ok (.invokestatic 88, 3) := by decide +kernel
theorem dX3_news_16 : decode cX3_news 16 = .ok (.ifCond .eq 17, 3) := by decide +kernel
theorem dX3_news_19 : decode cX3_news 19 = .ok (.aload_n 0, 1) := by decide +kernel
theorem dX3_news_20 : decode cX3_news 20 = .ok (.getfield 29, 3) := by decide +kernel
theorem dX3_news_23 : decode cX3_news 23 = .ok (.bipush 8, 2) := by decide +kernel
theorem dX3_news_25 : decode cX3_news 25 = .ok (.iload_n 1, 1) := by decide +kernel
theorem dX3_news_26 : decode cX3_news 26 = .ok (.imul, 1) := by decide +kernel
theorem dX3_news_27 : decode cX3_news 27 = .ok (.iload_n 2, 1) := by decide +kernel
theorem dX3_news_28 : decode cX3_news 28 = .ok (.iadd, 1) := by decide +kernel
theorem dX3_news_29 : decode cX3_news 29 = .ok (.iaload, 1) := by decide +kernel
theorem dX3_news_30 : decode cX3_news 30 = .ok (.ifCond .ne 5, 3) := by decide +kernel
theorem dX3_news_33 : decode cX3_news 33 = .ok (.iconst (-1), 1) := by decide +kernel
theorem dX3_news_34 : decode cX3_news 34 = .ok (.ireturn, 1) := by decide +kernel
theorem dX3_news_35 : decode cX3_news 35 = .ok (.bipush 8, 2) := by decide +kernel
theorem dX3_news_37 : decode cX3_news 37 = .ok (.iload_n 1, 1) := by decide +kernel
theorem dX3_news_38 : decode cX3_news 38 = .ok (.imul, 1) := by decide +kernel
theorem dX3_news_39 : decode cX3_news 39 = .ok (.iload_n 2, 1) := by decide +kernel
theorem dX3_news_40 : decode cX3_news 40 = .ok (.iadd, 1) := by decide +kernel
theorem dX3_news_41 : decode cX3_news 41 = .ok (.istore 4, 2) := by decide +kernel
theorem dX3_news_43 : decode cX3_news 43 = .ok (.iload_n 3, 1) := by decide +kernel
theorem dX3_news_44 : decode cX3_news 44 = .ok (.bipush 10, 2) := by decide +kernel
theorem dX3_news_46 : decode cX3_news 46 = .ok (.bipush 17, 2) := by decide +kernel
theorem dX3_news_48 : decode cX3_news 48 = .ok (.invokestatic 84, 3) := by decide +kernel
theorem dX3_news_51 : decode cX3_news 51 = .ok (.ifCond .eq 19, 3) := by decide +kernel
theorem dX3_news_54 : decode cX3_news 54 = .ok (.aload_n 0, 1) := by decide +kernel
theorem dX3_news_55 : decode cX3_news 55 = .ok (.getfield 35, 3) := by decide +kernel
theorem dX3_news_58 : decode cX3_news 58 = .ok (.bipush 8, 2) := by decide +kernel
theorem dX3_news_60 : decode cX3_news 60 = .ok (.iload 4, 2) := by decide +kernel
theorem dX3_news_62 : decode cX3_news 62 = .ok (.imul, 1) := by decide +kernel
theorem dX3_news_63 : decode cX3_news 63 = .ok (.iload_n 3, 1) := by decide +kernel
theorem dX3_news_64 : decode cX3_news 64 = .ok (.iadd, 1) := by decide +kernel
theorem dX3_news_65 : decode cX3_news 65 = .ok (.bipush 10, 2) := by decide +kernel
theorem dX3_news_67 : decode cX3_news 67 = .ok (.isub, 1) := by decide +kernel
theorem dX3_news_68 : decode cX3_news 68 = .ok (.iaload, 1) := by decide +kernel
theorem dX3_news_69 : decode cX3_news 69 = .ok (.ireturn, 1) := by decide +kernel
theorem dX3_news_70 : decode cX3_news 70 = .ok (.iconst 0, 1) := by decide +kernel
theorem dX3_news_71 : decode cX3_news 71 = .ok (.istore 5, 2) := by decide +kernel
theorem dX3_news_73 : decode cX3_news 73 = .ok (.iconst 0, 1) := by decide +kernel
theorem dX3_news_74 : decode cX3_news 74 = .ok (.istore 6, 2) := by decide +kernel
theorem dX3_news_76 : decode cX3_news 76 = .ok (.iload 6, 2) := by decide +kernel
theorem dX3_news_78 : decode cX3_news 78 = .ok (.bipush 8, 2) := by decide +kernel
theorem dX3_news_80 : decode cX3_news 80 = .ok (.if_icmp .ge 36, 3) := by decide +kernel
theorem dX3_news_83 : decode cX3_news 83 = .ok (.aload_n 0, 1) := by decide +kernel
theorem dX3_news_84 : decode cX3_news 84 = .ok (.getfield 35, 3) := by decide +kernel
theorem dX3_news_87 : decode cX3_news 87 = .ok (.bipush 8, 2) := by decide +kernel
theorem dX3_news_89 : decode cX3_news 89 = .ok (.iload 4, 2) := by decide +kernel
theorem dX3_news_91 : decode cX3_news 91 = .ok (.imul, 1) := by decide +kernel
theorem dX3_news_92 : decode cX3_news 92 = .ok (.iload 6, 2) := by decide +kernel
theorem dX3_news_94 : decode cX3_news 94 = .ok (.iadd, 1) := by decide +kernel
theorem dX3_news_95 : decode cX3_news 95 = .ok (.iaload, 1) := by decide +kernel
theorem dX3_news_96 : decode cX3_news 96 = .ok (.ifCond .le 10, 3) := by decide +kernel
theorem dX3_news_99 : decode cX3_news 99 = .ok (.iload 5, 2) := by decide +kernel
theorem dX3_news_101 : decode cX3_news 101 = .ok (.iconst 1, 1) := by decide +kernel
theorem dX3_news_102 : decode cX3_news 102 = .ok (.iadd, 1) := by decide +kernel
theorem dX3_news_103 : decode cX3_news 103 = .ok (.goto 5, 3) := by decide +kernel
theorem dX3_news_106 : decode cX3_news 106 = .ok (.iload 5, 2) := by decide +kernel
theorem dX3_news_108 : decode cX3_news 108 = .ok (.istore 5, 2) := by decide +kernel
theorem dX3_news_110 : decode cX3_news 110 = .ok (.iinc 6 1, 3) := by decide +kernel
theorem dX3_news_113 : decode cX3_news 113 = .ok (.goto (-37), 3) := by decide +kernel
theorem dX3_news_116 : decode cX3_news 116 = .ok (.iload_n 3, 1) := by decide +kernel
theorem dX3_news_117 : decode cX3_news 117 = .ok (.ifCond .ne 13, 3) := by decide +kernel
theorem dX3_news_120 : decode cX3_news 120 = .ok (.aload_n 0, 1) := by decide +kernel
theorem dX3_news_121 : decode cX3_news 121 = .ok (.getfield 29, 3) := by decide +kernel
theorem dX3_news_124 : decode cX3_news 124 = .ok (.iload 4, 2) := by decide +kernel
theorem dX3_news_126 : decode cX3_news 126 = .ok (.iaload, 1) := by decide +kernel
theorem dX3_news_127 : decode cX3_news 127 = .ok (.goto 29, 3) := by decide +kernel
theorem dX3_news_130 : decode cX3_news 130 = .ok (.iload_n 3, 1) := by decide +kernel
theorem dX3_news_131 : decode cX3_news 131 = .ok (.iconst 1, 1) := by decide +kernel
theorem dX3_news_132 : decode cX3_news 132 = .ok (.if_icmp .ne 13, 3) := by decide +kernel
theorem dX3_news_135 : decode cX3_news 135 = .ok (.aload_n 0, 1) := by decide +kernel
theorem dX3_news_136 : decode cX3_news 136 = .ok (.getfield 32, 3) := by decide +kernel
theorem dX3_news_139 : decode cX3_news 139 = .ok (.iload 4, 2) := by decide +kernel
theorem dX3_news_141 : decode cX3_news 141 = .ok (.iaload, 1) := by decide +kernel
theorem dX3_news_142 : decode cX3_news 142 = .ok (.goto 14, 3) := by decide +kernel
theorem dX3_news_145 : decode cX3_news 145 = .ok (.iload_n 3, 1) := by decide +kernel
theorem dX3_news_146 : decode cX3_news 146 = .ok (.iconst 2, 1) := by decide +kernel
theorem dX3_news_147 : decode cX3_news 147 = .ok (.if_icmp .ne 8, 3) := by decide +kernel
theorem dX3_news_150 : decode cX3_news 150 = .ok (.iload 5, 2) := by decide +kernel
theorem dX3_news_152 : decode cX3_news 152 = .ok (.goto 4, 3) := by decide +kernel
theorem dX3_news_155 : decode cX3_news 155 = .ok (.iconst (-1), 1) := by decide +kernel
theorem dX3_news_156 : decode cX3_news 156 = .ok (.ireturn, 1) := by decide +kernel
theorem dX3_flying_0 : decode cX3_flying 0 = .ok (.aload_n 0, 1) := by decide +kernel
theorem dX3_flying_1 : decode cX3_flying 1 = .ok (.iconst 0, 1) := by decide +kernel
theorem dX3_flying_2 : decode cX3_flying 2 = .ok (.putfield 80, 3) := by decide +kernel
theorem dX3_flying_5 : decode cX3_flying 5 = .ok (.iconst 0, 1) := by decide +kernel
theorem dX3_flying_6 : decode cX3_flying 6 = .ok (.istore_n 1, 1) := by decide +kernel
theorem dX3_flying_7 : decode cX3_flying 7 = .ok (.iconst 0, 1) := by decide +kernel
theorem dX3_flying_8 : decode cX3_flying 8 = .ok (.istore_n 2, 1) := by decide +kernel
theorem dX3_flying_9 : decode cX3_flying 9 = .ok (.iload_n 2, 1) := by decide +kernel
theorem dX3_flying_10 : decode cX3_flying 10 = .ok (.sipush 512, 3) := by decide +kernel
theorem dX3_flying_13 : decode cX3_flying 13 = .ok (.if_icmp .ge 26, 3) := by decide +kernel
theorem dX3_flying_16 : decode cX3_flying 16 = .ok (.aload_n 0, 1) := by decide +kernel
theorem dX3_flying_17 : decode cX3_flying 17 = .ok (.getfield 38, 3) := by decide +kernel
theorem dX3_flying_20 : decode cX3_flying 20 = .ok (.iload_n 2, 1) := by decide +kernel
theorem dX3_flying_21 : decode cX3_flying 21 = .ok (.iaload, 1) := by decide +kernel
theorem dX3_flying_22 : decode cX3_flying 22 = .ok (.ifCond .le 9, 3) := by decide +kernel
theorem dX3_flying_25 : decode cX3_flying 25 = .ok (.iload_n 1, 1) := by decide +kernel
theorem dX3_flying_26 : decode cX3_flying 26 = .ok (.iconst 1, 1) := by decide +kernel
theorem dX3_flying_27 : decode cX3_flying 27 = .ok (.iadd, 1) := by decide +kernel
theorem dX3_flying_28 : decode cX3_flying 28 = .ok (.goto 4, 3) := by decide +kernel
theorem dX3_flying_31 : decode cX3_flying 31 = .ok (.iload_n 1, 1) := by decide +kernel
theorem dX3_flying_32 : decode cX3_flying 32 = .ok (.istore_n 1, 1) := by decide +kernel
theorem dX3_flying_33 : decode cX3_flying 33 = .ok (.iinc 2 1, 3) := by decide +kernel
theorem dX3_flying_36 : decode cX3_flying 36 = .ok (.goto (-27), 3) := by decide +kernel
theorem dX3_flying_39 : decode cX3_flying 39 = .ok (.iload_n 1, 1) := by decide +kernel
theorem dX3_flying_40 : decode cX3_flying 40 = .ok (.ireturn, 1) := by decide +kernel
theorem dX3_settled_0 : decode cX3_settled 0 = .ok (.aload_n 0, 1) := by decide +kernel
theorem dX3_settled_1 : decode cX3_settled 1 = .ok (.invokevirtual 156, 3) := by decide +kernel
theorem dX3_settled_4 : decode cX3_settled 4 = .ok (.ifCond .le 5, 3) := by decide +kernel
theorem dX3_settled_7 : decode cX3_settled 7 = .ok (.iconst 0, 1) := by decide +kernel
theorem dX3_settled_8 : decode cX3_settled 8 = .ok (.ireturn, 1) := by decide +kernel
theorem dX3_settled_9 : decode cX3_settled 9 = .ok (.iconst 0, 1) := by decide +kernel
theorem dX3_settled_10 : decode cX3_settled 10 = .ok (.istore_n 1, 1) := by decide +kernel
theorem dX3_settled_11 : decode cX3_settled 11 = .ok (.iload_n 1, 1) := by decide +kernel
theorem dX3_settled_12 : decode cX3_settled 12 = .ok (.bipush 8, 2) := by decide +kernel
theorem dX3_settled_14 : decode cX3_settled 14 = .ok (.if_icmp .ge 67, 3) := by decide +kernel
theorem dX3_settled_17 : decode cX3_settled 17 = .ok (.iconst 0, 1) := by decide +kernel
theorem dX3_settled_18 : decode cX3_settled 18 = .ok (.istore_n 2, 1) := by decide +kernel
theorem dX3_settled_19 : decode cX3_settled 19 = .ok (.iload_n 2, 1) := by decide +kernel
theorem dX3_settled_20 : decode cX3_settled 20 = .ok (.bipush 8, 2) := by decide +kernel
theorem dX3_settled_22 : decode cX3_settled 22 = .ok (.if_icmp .ge 53, 3) := by decide +kernel
theorem dX3_settled_25 : decode cX3_settled 25 = .ok (.aload_n 0, 1) := by decide +kernel
theorem dX3_settled_26 : decode cX3_settled 26 = .ok (.getfield 77, 3) := by decide +kernel
theorem dX3_settled_29 : decode cX3_settled 29 = .ok (.bipush 8, 2) := by decide +kernel
theorem dX3_settled_31 : decode cX3_settled 31 = .ok (.iload_n 1, 1) := by decide +kernel
theorem dX3_settled_32 : decode cX3_settled 32 = .ok (.imul, 1) := by decide +kernel
theorem dX3_settled_33 : decode cX3_settled 33 = .ok (.iload_n 2, 1) := by decide +kernel
theorem dX3_settled_34 : decode cX3_settled 34 = .ok (.iadd, 1) := by decide +kernel
theorem dX3_settled_35 : decode cX3_settled 35 = .ok (.aload_n 0, 1) := by decide +kernel
theorem dX3_settled_36 : decode cX3_settled 36 = .ok (.getfield 7, 3) := by decide +kernel
theorem dX3_settled_39 : decode cX3_settled 39 = .ok (.iload_n 1, 1) := by decide +kernel
theorem dX3_settled_40 : decode cX3_settled 40 = .ok (.baload, 1) := by decide +kernel
theorem dX3_settled_41 : decode cX3_settled 41 = .ok (.ifCond .eq 8, 3) := by decide +kernel
theorem dX3_settled_44 : decode cX3_settled 44 = .ok (.iload_n 1, 1) := by decide +kernel
theorem dX3_settled_45 : decode cX3_settled 45 = .ok (.iload_n 2, 1) := by decide +kernel
theorem dX3_settled_46 : decode cX3_settled 46 = .ok (.if_icmp .eq 17, 3) := by decide +kernel
theorem dX3_settled_49 : decode cX3_settled 49 = .ok (.iload_n 1, 1) := by decide +kernel
theorem dX3_settled_50 : decode cX3_settled 50 = .ok (.iload_n 2, 1) := by decide +kernel
theorem dX3_settled_51 : decode cX3_settled 51 = .ok (.if_icmp .eq 16, 3) := by decide +kernel
theorem dX3_settled_54 : decode cX3_settled 54 = .ok (.aload_n 0, 1) := by decide +kernel
theorem dX3_settled_55 : decode cX3_settled 55 = .ok (.iload_n 1, 1) := by decide +kernel
theorem dX3_settled_56 : decode cX3_settled 56 = .ok (.iload_n 2, 1) := by decide +kernel
theorem dX3_settled_57 : decode cX3_settled 57 = .ok (.invokevirtual 92, 3) := by decide +kernel
theorem dX3_settled_60 : decode cX3_settled 60 = .ok (.ifCond .eq 7, 3) := by decide +kernel
theorem dX3_settled_63 : decode cX3_settled 63 = .ok (.iconst 1, 1) := by decide +kernel
theorem dX3_settled_64 : decode cX3_settled 64 = .ok (.goto 4, 3) := by decide +kernel
theorem dX3_settled_67 : decode cX3_settled 67 = .ok (.iconst 0, 1) := by decide +kernel
theorem dX3_settled_68 : decode cX3_settled 68 = .ok (.bastore, 1) := by decide +kernel
theorem dX3_settled_69 : decode cX3_settled 69 = .ok (.iinc 2 1, 3) := by decide +kernel
theorem dX3_settled_72 : decode cX3_settled 72 = .ok (.goto (-53), 3) := by decide +kernel
theorem dX3_settled_75 : decode cX3_settled 75 = .ok (.iinc 1 1, 3) := by decide +kernel
theorem dX3_settled_78 : decode cX3_settled 78 = .ok (.goto (-67), 3) := by decide +kernel
theorem dX3_settled_81 : decode cX3_settled 81 = .ok (.iconst 0, 1) := by decide +kernel
theorem dX3_settled_82 : decode cX3_settled 82 = .ok (.istore_n 1, 1) := by decide +kernel
theorem dX3_settled_83 : decode cX3_settled 83 = .ok (.iload_n 1, 1) := by decide +kernel
theorem dX3_settled_84 : decode cX3_settled 84 = .ok (.bipush 8, 2) := by decide +kernel
theorem dX3_settled_86 : decode cX3_settled 86 = .ok (.if_icmp .ge 77, 3) := by decide +kernel
theorem dX3_settled_89 : decode cX3_settled 89 = .ok (.iconst 0, 1) := by decide +kernel
theorem dX3_settled_90 : decode cX3_settled 90 = .ok (.istore_n 2, 1) := by decide +kernel
theorem dX3_settled_91 : decode cX3_settled 91 = .ok (.iload_n 2, 1) := by decide +kernel
theorem dX3_settled_92 : decode cX3_settled 92 = .ok (.bipush 64, 2) := by decide +kernel
theorem dX3_settled_94 : decode cX3_settled 94 = .ok (.if_icmp .ge 63, 3) := by decide +kernel
theorem dX3_settled_97 : decode cX3_settled 97 = .ok (.aload_n 0, 1) := by decide +kernel
theorem dX3_settled_98 : decode cX3_settled 98 = .ok (.getfield 77, 3) := by decide +kernel
theorem dX3_settled_101 : decode cX3_settled 101 = .ok (.iload_n 2, 1) := by decide +kernel
theorem dX3_settled_102 : decode cX3_settled 102 = .ok (.aload_n 0, 1) := by decide +kernel
theorem dX3_settled_103 : decode cX3_settled 103 = .ok (.getfield 77, 3) := by decide +kernel
theorem dX3_settled_106 : decode cX3_settled 106 = .ok (.iload_n 2, 1) := by decide +kernel
theorem dX3_settled_107 : decode cX3_settled 107 = .ok (.baload, 1) := by decide +kernel
theorem dX3_settled_108 : decode cX3_settled 108 = .ok (.ifCond .ne 37, 3) := by decide +kernel
theorem dX3_settled_111 : decode cX3_settled 111 = .ok (.aload_n 0, 1) := by decide +kernel
theorem dX3_settled_112 : decode cX3_settled 112 = .ok (.getfield 77, 3) := by decide +kernel
theorem dX3_settled_115 : decode cX3_settled 115 = .ok (.iload_n 2, 1) := by decide +kernel
theorem dX3_settled_116 : decode cX3_settled 116 = .ok (.bipush 8, 2) := by decide +kernel
theorem dX3_settled_118 : decode cX3_settled 118 = .ok (.idiv, 1) := by decide +kernel
theorem dX3_settled_119 : decode cX3_settled 119 = .ok (.bipush 8, 2) := by decide +kernel
theorem dX3_settled_121 : decode cX3_settled 121 = .ok (.imul, 1) := by decide +kernel
theorem dX3_settled_122 : decode cX3_settled 122 = .ok (.iload_n 1, 1) := by decide +kernel
theorem dX3_settled_123 : decode cX3_settled 123 = .ok (.iadd, 1) := by decide +kernel
theorem dX3_settled_124 : decode cX3_settled 124 = .ok (.baload, 1) := by decide +kernel
theorem dX3_settled_125 : decode cX3_settled 125 = .ok (.ifCond .eq 24, 3) := by decide +kernel
theorem dX3_settled_128 : decode cX3_settled 128 = .ok (.aload_n 0, 1) := by decide +kernel
theorem dX3_settled_129 : decode cX3_settled 129 = .ok (.getfield 77, 3) := by decide +kernel
theorem dX3_settled_132 : decode cX3_settled 132 = .ok (.bipush 8, 2) := by decide +kernel
theorem dX3_settled_134 : decode cX3_settled 134 = .ok (.iload_n 1, 1) := by decide +kernel
theorem dX3_settled_135 : decode cX3_settled 135 = .ok (.imul, 1) := by decide +kernel
theorem dX3_settled_136 : decode cX3_settled 136 = .ok (.iload_n 2, 1) := by decide +kernel
theorem dX3_settled_137 : decode cX3_settled 137 = .ok (.bipush 8, 2) := by decide +kernel
theorem dX3_settled_139 : decode cX3_settled 139 = .ok (.irem, 1) := by decide +kernel
theorem dX3_settled_140 : decode cX3_settled 140 = .ok (.iadd, 1) := by decide +kernel
theorem dX3_settled_141 : decode cX3_settled 141 = .ok (.baload, 1) := by decide +kernel
theorem dX3_settled_142 : decode cX3_settled 142 = .ok (.ifCond .eq 7, 3) := by decide +kernel
theorem dX3_settled_145 : decode cX3_settled 145 = .ok (.iconst 1, 1) := by decide +kernel
theorem dX3_settled_146 : decode cX3_settled 146 = .ok (.goto 4, 3) := by decide +kernel
theorem dX3_settled_149 : decode cX3_settled 149 = .ok (.iconst 0, 1) := by decide +kernel
theorem dX3_settled_150 : decode cX3_settled 150 = .ok (.bastore, 1) := by decide +kernel
theorem dX3_settled_151 : decode cX3_settled 151 = .ok (.iinc 2 1, 3) := by decide +kernel
theorem dX3_settled_154 : decode cX3_settled 154 = .ok (.goto (-63), 3) := by decide +kernel
theorem dX3_settled_157 : decode cX3_settled 157 = .ok (.iinc 1 1, 3) := by decide +kernel
theorem dX3_settled_160 : decode cX3_settled 160 = .ok (.goto (-77), 3) := by decide +kernel
theorem dX3_settled_163 : decode cX3_settled 163 = .ok (.iconst 1, 1) := by decide +kernel
theorem dX3_settled_164 : decode cX3_settled 164 = .ok (.istore_n 1, 1) := by decide +kernel
theorem dX3_settled_165 : decode cX3_settled 165 = .ok (.iconst 0, 1) := by decide +kernel
theorem dX3_settled_166 : decode cX3_settled 166 = .ok (.istore_n 2, 1) := by decide +kernel
theorem dX3_settled_167 : decode cX3_settled 167 = .ok (.iload_n 2, 1) := by decide +kernel
theorem dX3_settled_168 : decode cX3_settled 168 = .ok (.bipush 64, 2) := by decide +kernel
theorem dX3_settled_170 : decode cX3_settled 170 = .ok (.if_icmp .ge 94, 3) := by decide +kernel
theorem dX3_settled_173 : decode cX3_settled 173 = .ok (.iconst 0, 1) := by decide +kernel
theorem dX3_settled_174 : decode cX3_settled 174 = .ok (.istore_n 3, 1) := by decide +kernel
theorem dX3_settled_175 : decode cX3_settled 175 = .ok (.iload_n 3, 1) := by decide +kernel
theorem dX3_settled_176 : decode cX3_settled 176 = .ok (.bipush 8, 2) := by decide +kernel
theorem dX3_settled_178 : decode cX3_settled 178 = .ok (.if_icmp .ge 80, 3) := by decide +kernel
theorem dX3_settled_181 : decode cX3_settled 181 = .ok (.aload_n 0, 1) := by decide +kernel
theorem dX3_settled_182 : decode cX3_settled 182 = .ok (.getfield 77, 3) := by decide +kernel
theorem dX3_settled_185 : decode cX3_settled 185 = .ok (.iload_n 2, 1) := by decide +kernel
theorem dX3_settled_186 : decode cX3_settled 186 = .ok (.baload, 1) := by decide +kernel
theorem dX3_settled_187 : decode cX3_settled 187 = .ok (.ifCond .eq 71, 3) := by decide +kernel
theorem dX3_settled_190 : decode cX3_settled 190 = .ok (.aload_n 0, 1) := by decide +kernel
theorem dX3_settled_191 : decode cX3_settled 191 = .ok (.getfield 77, 3) := by decide +kernel
theorem dX3_settled_194 : decode cX3_settled 194 = .ok (.iload_n 2, 1) := by decide +kernel
theorem dX3_settled_195 : decode cX3_settled 195 = .ok (.bipush 8, 2) := by decide +kernel
theorem dX3_settled_197 : decode cX3_settled 197 = .ok (.idiv, 1) := by decide +kernel
theorem dX3_settled_198 : decode cX3_settled 198 = .ok (.bipush 8, 2) := by decide +kernel
theorem dX3_settled_200 : decode cX3_settled 200 = .ok (.imul, 1) := by decide +kernel
theorem dX3_settled_201 : decode cX3_settled 201 = .ok (.iload_n 3, 1) := by decide +kernel
theorem dX3_settled_202 : decode cX3_settled 202 = .ok (.iadd, 1) := by decide +kernel
theorem dX3_settled_203 : decode cX3_settled 203 = .ok (.baload, 1) := by decide +kernel
theorem dX3_settled_204 : decode cX3_settled 204 = .ok (.istore 4, 2) := by decide +kernel
theorem dX3_settled_206 : decode cX3_settled 206 = .ok (.iload_n 1, 1) := by decide +kernel
theorem dX3_settled_207 : decode cX3_settled 207 = .ok (.ifCond .eq 43, 3) := by decide +kernel
theorem dX3_settled_210 : decode cX3_settled 210 = .ok (.iload 4, 2) := by decide +kernel
theorem dX3_settled_212 : decode cX3_settled 212 = .ok (.ifCond .eq 34, 3) := by decide +kernel
theorem dX3_settled_215 : decode cX3_settled 215 = .ok (.aload_n 0, 1) := by decide +kernel
theorem dX3_settled_216 : decode cX3_settled 216 = .ok (.getfield 29, 3) := by decide +kernel
theorem dX3_settled_219 : decode cX3_settled 219 = .ok (.iload_n 2, 1) := by decide +kernel
theorem dX3_settled_220 : decode cX3_settled 220 = .ok (.bipush 8, 2) := by decide +kernel
theorem dX3_settled_222 : decode cX3_settled 222 = .ok (.idiv, 1) := by decide +kernel
theorem dX3_settled_223 : decode cX3_settled 223 = .ok (.bipush 8, 2) := by decide +kernel
theorem dX3_settled_225 : decode cX3_settled 225 = .ok (.imul, 1) := by decide +kernel
theorem dX3_settled_226 : decode cX3_settled 226 = .ok (.iload_n 3, 1) := by decide +kernel
theorem dX3_settled_227 : decode cX3_settled 227 = .ok (.iadd, 1) := by decide +kernel
theorem dX3_settled_228 : decode cX3_settled 228 = .ok (.iaload, 1) := by decide +kernel
theorem dX3_settled_229 : decode cX3_settled 229 = .ok (.aload_n 0, 1) := by decide +kernel
theorem dX3_settled_230 : decode cX3_settled 230 = .ok (.getfield 29, 3) := by decide +kernel
theorem dX3_settled_233 : decode cX3_settled 233 = .ok (.iload_n 2, 1) := by decide +kernel
theorem dX3_settled_234 : decode cX3_settled 234 = .ok (.bipush 8, 2) := by decide +kernel
theorem dX3_settled_236 : decode cX3_settled 236 = .ok (.irem, 1) := by decide +kernel
theorem dX3_settled_237 : decode cX3_settled 237 = .ok (.bipush 8, 2) := by decide +kernel
theorem dX3_settled_239 : decode cX3_settled 239 = .ok (.imul, 1) := by decide +kernel
theorem dX3_settled_240 : decode cX3_settled 240 = .ok (.iload_n 3, 1) := by decide +kernel
theorem dX3_settled_241 : decode cX3_settled 241 = .ok (.iadd, 1) := by decide +kernel
theorem dX3_settled_242 : decode cX3_settled 242 = .ok (.iaload, 1) := by decide +kernel
theorem dX3_settled_243 : decode cX3_settled 243 = .ok (.if_icmp .ne 7, 3) := by decide +kernel
theorem dX3_settled_246 : decode cX3_settled 246 = .ok (.iconst 1, 1) := by decide +kernel
theorem dX3_settled_247 : decode cX3_settled 247 = .ok (.goto 4, 3) := by decide +kernel
theorem dX3_settled_250 : decode cX3_settled 250 = .ok (.iconst 0, 1) := by decide +kernel
theorem dX3_settled_251 : decode cX3_settled 251 = .ok (.istore_n 1, 1) := by decide +kernel
theorem dX3_settled_252 : decode cX3_settled 252 = .ok (.iinc 3 1, 3) := by decide +kernel
theorem dX3_settled_255 : decode cX3_settled 255 = .ok (.goto (-80), 3) := by decide +kernel
theorem dX3_settled_258 : decode cX3_settled 258 = .ok (.iinc 2 1, 3) := by decide +kernel
theorem dX3_settled_261 : decode cX3_settled 261 = .ok (.goto (-94), 3) := by decide +kernel
theorem dX3_settled_264 : decode cX3_settled 264 = .ok (.iload_n 1, 1) := by decide +kernel
theorem dX3_settled_265 : decode cX3_settled 265 = .ok (.ireturn, 1) := by decide +kernel
end
section
theorem dL_link_0 : decode cL_link 0 = .ok (.aload 5, 2) := by decide +kernel
theorem dL_link_2 : decode cL_link 2 = .ok (.iconst 0, 1) := by decide +kernel
theorem dL_link_3 : decode cL_link 3 = .ok (.aload_n 0, 1) := by decide +kernel
theorem dL_link_4 : decode cL_link 4 = .ok (.iload_n 1, 1) := by decide +kernel
theorem dL_link_5 : decode cL_link 5 = .ok (.iload_n 2, 1) := by decide +kernel
theorem dL_link_6 : decode cL_link 6 = .ok (.iload_n 3, 1) := by decide +kernel
theorem dL_link_7 : decode cL_link 7 = .ok (.iload 4, 2) := by decide +kernel
theorem dL_link_9 : decode cL_link 9 = .ok (.invokevirtual 7, 3) := by decide +kernel
theorem dL_link_12 : decode cL_link 12 = .ok (.i2l, 1) := by decide +kernel
theorem dL_link_13 : decode cL_link 13 = .ok (.lastore, 1) := by decide +kernel
theorem dL_link_14 : decode cL_link 14 = .ok (.goto 11, 3) := by decide +kernel
theorem dL_link_17 : decode cL_link 17 = .ok (.astore 6, 2) := by decide +kernel
theorem dL_link_19 : decode cL_link 19 = .ok (.iconst 1, 1) := by decide +kernel
theorem dL_link_20 : decode cL_link 20 = .ok (.ireturn, 1) := by decide +kernel
theorem dL_link_21 : decode cL_link 21 = .ok (.astore 6, 2) := by decide +kernel
theorem dL_link_23 : decode cL_link 23 = .ok (.iconst 2, 1) := by decide +kernel
theorem dL_link_24 : decode cL_link 24 = .ok (.ireturn, 1) := by decide +kernel
theorem dL_link_25 : decode cL_link 25 = .ok (.iconst 0, 1) := by decide +kernel
theorem dL_link_26 : decode cL_link 26 = .ok (.ireturn, 1) := by decide +kernel
theorem dL_fail_0 : decode cL_fail 0 = .ok (.aload_n 3, 1) := by decide +kernel
theorem dL_fail_1 : decode cL_fail 1 = .ok (.iconst 0, 1) := by decide +kernel
theorem dL_fail_2 : decode cL_fail 2 = .ok (.aload_n 0, 1) := by decide +kernel
theorem dL_fail_3 : decode cL_fail 3 = .ok (.iload_n 1, 1) := by decide +kernel
theorem dL_fail_4 : decode cL_fail 4 = .ok (.iload_n 2, 1) := by decide +kernel
theorem dL_fail_5 : decode cL_fail 5 = .ok (.invokevirtual 17, 3) := by decide +kernel
theorem dL_fail_8 : decode cL_fail 8 = .ok (.ifCond .eq 7, 3) := by decide +kernel
theorem dL_fail_11 : decode cL_fail 11 = .ok (.lconst 1, 1) := by decide +kernel
theorem dL_fail_12 : decode cL_fail 12 = .ok (.goto 4, 3) := by decide +kernel
theorem dL_fail_15 : decode cL_fail 15 = .ok (.lconst 0, 1) := by decide +kernel
theorem dL_fail_16 : decode cL_fail 16 = .ok (.lastore, 1) := by decide +kernel
theorem dL_fail_17 : decode cL_fail 17 = .ok (.goto 7, 3) := by decide +kernel
theorem dL_fail_20 : decode cL_fail 20 = .ok (.astore 4, 2) := by decide +kernel
theorem dL_fail_22 : decode cL_fail 22 = .ok (.iconst 1, 1) := by decide +kernel
theorem dL_fail_23 : decode cL_fail 23 = .ok (.ireturn, 1) := by decide +kernel
theorem dL_fail_24 : decode cL_fail 24 = .ok (.iconst 0, 1) := by decide +kernel
theorem dL_fail_25 : decode cL_fail 25 = .ok (.ireturn, 1) := by decide +kernel
theorem dL_restore_0 : decode cL_restore 0 = .ok (.aload_n 3, 1) := by decide +kernel
theorem dL_restore_1 : decode cL_restore 1 = .ok (.iconst 0, 1) := by decide +kernel
theorem dL_restore_2 : decode cL_restore 2 = .ok (.aload_n 0, 1) := by decide +kernel
theorem dL_restore_3 : decode cL_restore 3 = .ok (.iload_n 1, 1) := by decide +kernel
theorem dL_restore_4 : decode cL_restore 4 = .ok (.iload_n 2, 1) := by decide +kernel
theorem dL_restore_5 : decode cL_restore 5 = .ok (.invokevirtual 21, 3) := by decide +kernel
theorem dL_restore_8 : decode cL_restore 8 = .ok (.ifCond .eq 7, 3) := by decide +kernel
theorem dL_restore_11 : decode cL_restore 11 = .ok (.lconst 1, 1) := by decide +kernel
theorem dL_restore_12 : decode cL_restore 12 = .ok (.goto 4, 3) := by decide +kernel
theorem dL_restore_15 : decode cL_restore 15 = .ok (.lconst 0, 1) := by decide +kernel
theorem dL_restore_16 : decode cL_restore 16 = .ok (.lastore, 1) := by decide +kernel
theorem dL_restore_17 : decode cL_restore 17 = .ok (.goto 7, 3) := by decide +kernel
theorem dL_restore_20 : decode cL_restore 20 = .ok (.astore 4, 2) := by decide +kernel
theorem dL_restore_22 : decode cL_restore 22 = .ok (.iconst 1, 1) := by decide +kernel
theorem dL_restore_23 : decode cL_restore 23 = .ok (.ireturn, 1) := by decide +kernel
theorem dL_restore_24 : decode cL_restore 24 = .ok (.iconst 0, 1) := by decide +kernel
theorem dL_restore_25 : decode cL_restore 25 = .ok (.ireturn, 1) := by decide +kernel
theorem dL_start_0 : decode cL_start 0 = .ok (.aload_n 2, 1) := by decide +kernel
theorem dL_start_1 : decode cL_start 1 = .ok (.iconst 0, 1) := by decide +kernel
theorem dL_start_2 : decode cL_start 2 = .ok (.aload_n 0, 1) := by decide +kernel
theorem dL_start_3 : decode cL_start 3 = .ok (.iload_n 1, 1) := by decide +kernel
theorem dL_start_4 : decode cL_start 4 = .ok (.invokevirtual 24, 3) := by decide +kernel
theorem dL_start_7 : decode cL_start 7 = .ok (.ifCond .eq 7, 3) := by decide +kernel
theorem dL_start_10 : decode cL_start 10 = .ok (.lconst 1, 1) := by decide +kernel
theorem dL_start_11 : decode cL_start 11 = .ok (.goto 4, 3) := by decide +kernel
theorem dL_start_14 : decode cL_start 14 = .ok (.lconst 0, 1) := by decide +kernel
theorem dL_start_15 : decode cL_start 15 = .ok (.lastore, 1) := by decide +kernel
theorem dL_start_16 : decode cL_start 16 = .ok (.goto 6, 3) := by decide +kernel
theorem dL_start_19 : decode cL_start 19 = .ok (.astore_n 3, 1) := by decide +kernel
theorem dL_start_20 : decode cL_start 20 = .ok (.iconst 1, 1) := by decide +kernel
theorem dL_start_21 : decode cL_start 21 = .ok (.ireturn, 1) := by decide +kernel
theorem dL_start_22 : decode cL_start 22 = .ok (.iconst 0, 1) := by decide +kernel
theorem dL_start_23 : decode cL_start 23 = .ok (.ireturn, 1) := by decide +kernel
theorem dL_crash_0 : decode cL_crash 0 = .ok (.aload_n 2, 1) := by decide +kernel
theorem dL_crash_1 : decode cL_crash 1 = .ok (.iconst 0, 1) := by decide +kernel
theorem dL_crash_2 : decode cL_crash 2 = .ok (.aload_n 0, 1) := by decide +kernel
theorem dL_crash_3 : decode cL_crash 3 = .ok (.iload_n 1, 1) := by decide +kernel
theorem dL_crash_4 : decode cL_crash 4 = .ok (.invokevirtual 28, 3) := by decide +kernel
theorem dL_crash_7 : decode cL_crash 7 = .ok (.ifCond .eq 7, 3) := by decide +kernel
theorem dL_crash_10 : decode cL_crash 10 = .ok (.lconst 1, 1) := by decide +kernel
theorem dL_crash_11 : decode cL_crash 11 = .ok (.goto 4, 3) := by decide +kernel
theorem dL_crash_14 : decode cL_crash 14 = .ok (.lconst 0, 1) := by decide +kernel
theorem dL_crash_15 : decode cL_crash 15 = .ok (.lastore, 1) := by decide +kernel
theorem dL_crash_16 : decode cL_crash 16 = .ok (.goto 6, 3) := by decide +kernel
theorem dL_crash_19 : decode cL_crash 19 = .ok (.astore_n 3, 1) := by decide +kernel
theorem dL_crash_20 : decode cL_crash 20 = .ok (.iconst 1, 1) := by decide +kernel
theorem dL_crash_21 : decode cL_crash 21 = .ok (.ireturn, 1) := by decide +kernel
theorem dL_crash_22 : decode cL_crash 22 = .ok (.iconst 0, 1) := by decide +kernel
theorem dL_crash_23 : decode cL_crash 23 = .ok (.ireturn, 1) := by decide +kernel
theorem dL_tick_0 : decode cL_tick 0 = .ok (.aload_n 2, 1) := by decide +kernel
theorem dL_tick_1 : decode cL_tick 1 = .ok (.iconst 0, 1) := by decide +kernel
theorem dL_tick_2 : decode cL_tick 2 = .ok (.aload_n 0, 1) := by decide +kernel
theorem dL_tick_3 : decode cL_tick 3 = .ok (.iload_n 1, 1) := by decide +kernel
theorem dL_tick_4 : decode cL_tick 4 = .ok (.invokevirtual 31, 3) := by decide +kernel
theorem dL_tick_7 : decode cL_tick 7 = .ok (.i2l, 1) := by decide +kernel
theorem dL_tick_8 : decode cL_tick 8 = .ok (.lastore, 1) := by decide +kernel
theorem dL_tick_9 : decode cL_tick 9 = .ok (.goto 6, 3) := by decide +kernel
theorem dL_tick_12 : decode cL_tick 12 = .ok (.astore_n 3, 1) := by decide +kernel
theorem dL_tick_13 : decode cL_tick 13 = .ok (.iconst 1, 1) := by decide +kernel
theorem dL_tick_14 : decode cL_tick 14 = .ok (.ireturn, 1) := by decide +kernel
theorem dL_tick_15 : decode cL_tick 15 = .ok (.iconst 0, 1) := by decide +kernel
theorem dL_tick_16 : decode cL_tick 16 = .ok (.ireturn, 1) := by decide +kernel
theorem dL_send_0 : decode cL_send 0 = .ok (.aload 4, 2) := by decide +kernel
theorem dL_send_2 : decode cL_send 2 = .ok (.iconst 0, 1) := by decide +kernel
theorem dL_send_3 : decode cL_send 3 = .ok (.aload_n 0, 1) := by decide +kernel
theorem dL_send_4 : decode cL_send 4 = .ok (.iload_n 1, 1) := by decide +kernel
theorem dL_send_5 : decode cL_send 5 = .ok (.iload_n 2, 1) := by decide +kernel
theorem dL_send_6 : decode cL_send 6 = .ok (.iload_n 3, 1) := by decide +kernel
theorem dL_send_7 : decode cL_send 7 = .ok (.invokevirtual 35, 3) := by decide +kernel
theorem dL_send_10 : decode cL_send 10 = .ok (.i2l, 1) := by decide +kernel
theorem dL_send_11 : decode cL_send 11 = .ok (.lastore, 1) := by decide +kernel
theorem dL_send_12 : decode cL_send 12 = .ok (.goto 11, 3) := by decide +kernel
theorem dL_send_15 : decode cL_send 15 = .ok (.astore 5, 2) := by decide +kernel
theorem dL_send_17 : decode cL_send 17 = .ok (.iconst 1, 1) := by decide +kernel
theorem dL_send_18 : decode cL_send 18 = .ok (.ireturn, 1) := by decide +kernel
theorem dL_send_19 : decode cL_send 19 = .ok (.astore 5, 2) := by decide +kernel
theorem dL_send_21 : decode cL_send 21 = .ok (.iconst 2, 1) := by decide +kernel
theorem dL_send_22 : decode cL_send 22 = .ok (.ireturn, 1) := by decide +kernel
theorem dL_send_23 : decode cL_send 23 = .ok (.iconst 0, 1) := by decide +kernel
theorem dL_send_24 : decode cL_send 24 = .ok (.ireturn, 1) := by decide +kernel
theorem dL_law_0 : decode cL_law 0 = .ok (.new 8, 3) := by decide +kernel
theorem dL_law_3 : decode cL_law 3 = .ok (.dup, 1) := by decide +kernel
theorem dL_law_4 : decode cL_law 4 = .ok (.invokespecial 39, 3) := by decide +kernel
theorem dL_law_7 : decode cL_law 7 = .ok (.astore_n 1, 1) := by decide +kernel
theorem dL_law_8 : decode cL_law 8 = .ok (.new 40, 3) := by decide +kernel
theorem dL_law_11 : decode cL_law 11 = .ok (.dup, 1) := by decide +kernel
theorem dL_law_12 : decode cL_law 12 = .ok (.invokespecial 42, 3) := by decide +kernel
theorem dL_law_15 : decode cL_law 15 = .ok (.astore_n 2, 1) := by decide +kernel
theorem dL_law_16 : decode cL_law 16 = .ok (.iconst 1, 1) := by decide +kernel
theorem dL_law_17 : decode cL_law 17 = .ok (.newarray .long, 2) := by decide +kernel
theorem dL_law_19 : decode cL_law 19 = .ok (.astore_n 3, 1) := by decide +kernel
theorem dL_law_20 : decode cL_law 20 = .ok (.iconst 0, 1) := by decide +kernel
theorem dL_law_21 : decode cL_law 21 = .ok (.istore 4, 2) := by decide +kernel
theorem dL_law_23 : decode cL_law 23 = .ok (.iload 4, 2) := by decide +kernel
theorem dL_law_25 : decode cL_law 25 = .ok (.aload_n 0, 1) := by decide +kernel
theorem dL_law_26 : decode cL_law 26 = .ok (.arraylength, 1) := by decide +kernel
theorem dL_law_27 : decode cL_law 27 = .ok (.iconst 5, 1) := by decide +kernel
theorem dL_law_28 : decode cL_law 28 = .ok (.isub, 1) := by decide +kernel
theorem dL_law_29 : decode cL_law 29 = .ok (.if_icmp .gt 771, 3) := by decide +kernel
theorem dL_law_32 : decode cL_law 32 = .ok (.aload_n 0, 1) := by decide +kernel
theorem dL_law_33 : decode cL_law 33 = .ok (.iload 4, 2) := by decide +kernel
theorem dL_law_35 : decode cL_law 35 = .ok (.iaload, 1) := by decide +kernel
theorem dL_law_36 : decode cL_law 36 = .ok (.bipush 15, 2) := by decide +kernel
theorem dL_law_38 : decode cL_law 38 = .ok (.iand, 1) := by decide +kernel
theorem dL_law_39 : decode cL_law 39 = .ok (.tableswitch 755 0 12 #[65, 157, 232, 307, 370, 433, 489, 538, 551, 588, 625, 705, 742], 65) := by decide +kernel
theorem dL_law_104 : decode cL_law 104 = .ok (.aload_n 1, 1) := by decide +kernel
theorem dL_law_105 : decode cL_law 105 = .ok (.aload_n 0, 1) := by decide +kernel
theorem dL_law_106 : decode cL_law 106 = .ok (.iload 4, 2) := by decide +kernel
theorem dL_law_108 : decode cL_law 108 = .ok (.iconst 1, 1) := by decide +kernel
theorem dL_law_109 : decode cL_law 109 = .ok (.iadd, 1) := by decide +kernel
theorem dL_law_110 : decode cL_law 110 = .ok (.iaload, 1) := by decide +kernel
theorem dL_law_111 : decode cL_law 111 = .ok (.aload_n 0, 1) := by decide +kernel
theorem dL_law_112 : decode cL_law 112 = .ok (.iload 4, 2) := by decide +kernel
theorem dL_law_114 : decode cL_law 114 = .ok (.iconst 2, 1) := by decide +kernel
theorem dL_law_115 : decode cL_law 115 = .ok (.iadd, 1) := by decide +kernel
theorem dL_law_116 : decode cL_law 116 = .ok (.iaload, 1) := by decide +kernel
theorem dL_law_117 : decode cL_law 117 = .ok (.aload_n 0, 1) := by decide +kernel
theorem dL_law_118 : decode cL_law 118 = .ok (.iload 4, 2) := by decide +kernel
theorem dL_law_120 : decode cL_law 120 = .ok (.iconst 3, 1) := by decide +kernel
theorem dL_law_121 : decode cL_law 121 = .ok (.iadd, 1) := by decide +kernel
theorem dL_law_122 : decode cL_law 122 = .ok (.iaload, 1) := by decide +kernel
theorem dL_law_123 : decode cL_law 123 = .ok (.aload_n 0, 1) := by decide +kernel
theorem dL_law_124 : decode cL_law 124 = .ok (.iload 4, 2) := by decide +kernel
theorem dL_law_126 : decode cL_law 126 = .ok (.iconst 4, 1) := by decide +kernel
theorem dL_law_127 : decode cL_law 127 = .ok (.iadd, 1) := by decide +kernel
theorem dL_law_128 : decode cL_law 128 = .ok (.iaload, 1) := by decide +kernel
theorem dL_law_129 : decode cL_law 129 = .ok (.aload_n 3, 1) := by decide +kernel
theorem dL_law_130 : decode cL_law 130 = .ok (.invokestatic 43, 3) := by decide +kernel
theorem dL_law_133 : decode cL_law 133 = .ok (.istore 5, 2) := by decide +kernel
theorem dL_law_135 : decode cL_law 135 = .ok (.aload_n 2, 1) := by decide +kernel
theorem dL_law_136 : decode cL_law 136 = .ok (.aload_n 0, 1) := by decide +kernel
theorem dL_law_137 : decode cL_law 137 = .ok (.iload 4, 2) := by decide +kernel
theorem dL_law_139 : decode cL_law 139 = .ok (.iconst 1, 1) := by decide +kernel
theorem dL_law_140 : decode cL_law 140 = .ok (.iadd, 1) := by decide +kernel
theorem dL_law_141 : decode cL_law 141 = .ok (.iaload, 1) := by decide +kernel
theorem dL_law_142 : decode cL_law 142 = .ok (.aload_n 0, 1) := by decide +kernel
theorem dL_law_143 : decode cL_law 143 = .ok (.iload 4, 2) := by decide +kernel
theorem dL_law_145 : decode cL_law 145 = .ok (.iconst 2, 1) := by decide +kernel
theorem dL_law_146 : decode cL_law 146 = .ok (.iadd, 1) := by decide +kernel
theorem dL_law_147 : decode cL_law 147 = .ok (.iaload, 1) := by decide +kernel
theorem dL_law_148 : decode cL_law 148 = .ok (.aload_n 0, 1) := by decide +kernel
theorem dL_law_149 : decode cL_law 149 = .ok (.iload 4, 2) := by decide +kernel
theorem dL_law_151 : decode cL_law 151 = .ok (.iconst 3, 1) := by decide +kernel
theorem dL_law_152 : decode cL_law 152 = .ok (.iadd, 1) := by decide +kernel
theorem dL_law_153 : decode cL_law 153 = .ok (.iaload, 1) := by decide +kernel
theorem dL_law_154 : decode cL_law 154 = .ok (.aload_n 0, 1) := by decide +kernel
theorem dL_law_155 : decode cL_law 155 = .ok (.iload 4, 2) := by decide +kernel
theorem dL_law_157 : decode cL_law 157 = .ok (.iconst 4, 1) := by decide +kernel
theorem dL_law_158 : decode cL_law 158 = .ok (.iadd, 1) := by decide +kernel
theorem dL_law_159 : decode cL_law 159 = .ok (.iaload, 1) := by decide +kernel
theorem dL_law_160 : decode cL_law 160 = .ok (.invokevirtual 48, 3) := by decide +kernel
theorem dL_law_163 : decode cL_law 163 = .ok (.istore 6, 2) := by decide +kernel
theorem dL_law_165 : decode cL_law 165 = .ok (.aload_n 2, 1) := by decide +kernel
theorem dL_law_166 : decode cL_law 166 = .ok (.invokevirtual 49, 3) := by decide +kernel
theorem dL_law_169 : decode cL_law 169 = .ok (.iload 5, 2) := by decide +kernel
theorem dL_law_171 : decode cL_law 171 = .ok (.if_icmp .eq 5, 3) := by decide +kernel
theorem dL_law_174 : decode cL_law 174 = .ok (.iconst 0, 1) := by decide +kernel
theorem dL_law_175 : decode cL_law 175 = .ok (.ireturn, 1) := by decide +kernel
theorem dL_law_176 : decode cL_law 176 = .ok (.iload 5, 2) := by decide +kernel
theorem dL_law_178 : decode cL_law 178 = .ok (.ifCond .ne 15, 3) := by decide +kernel
theorem dL_law_181 : decode cL_law 181 = .ok (.aload_n 3, 1) := by decide +kernel
theorem dL_law_182 : decode cL_law 182 = .ok (.iconst 0, 1) := by decide +kernel
theorem dL_law_183 : decode cL_law 183 = .ok (.laload, 1) := by decide +kernel
theorem dL_law_184 : decode cL_law 184 = .ok (.iload 6, 2) := by decide +kernel
theorem dL_law_186 : decode cL_law 186 = .ok (.i2l, 1) := by decide +kernel
theorem dL_law_187 : decode cL_law 187 = .ok (.lcmp, 1) := by decide +kernel
theorem dL_law_188 : decode cL_law 188 = .ok (.ifCond .eq 5, 3) := by decide +kernel
theorem dL_law_191 : decode cL_law 191 = .ok (.iconst 0, 1) := by decide +kernel
theorem dL_law_192 : decode cL_law 192 = .ok (.ireturn, 1) := by decide +kernel
theorem dL_law_193 : decode cL_law 193 = .ok (.goto 601, 3) := by decide +kernel
theorem dL_law_196 : decode cL_law 196 = .ok (.aload_n 1, 1) := by decide +kernel
theorem dL_law_197 : decode cL_law 197 = .ok (.aload_n 0, 1) := by decide +kernel
theorem dL_law_198 : decode cL_law 198 = .ok (.iload 4, 2) := by decide +kernel
theorem dL_law_200 : decode cL_law 200 = .ok (.iconst 1, 1) := by decide +kernel
theorem dL_law_201 : decode cL_law 201 = .ok (.iadd, 1) := by decide +kernel
theorem dL_law_202 : decode cL_law 202 = .ok (.iaload, 1) := by decide +kernel
theorem dL_law_203 : decode cL_law 203 = .ok (.aload_n 0, 1) := by decide +kernel
theorem dL_law_204 : decode cL_law 204 = .ok (.iload 4, 2) := by decide +kernel
theorem dL_law_206 : decode cL_law 206 = .ok (.iconst 2, 1) := by decide +kernel
theorem dL_law_207 : decode cL_law 207 = .ok (.iadd, 1) := by decide +kernel
theorem dL_law_208 : decode cL_law 208 = .ok (.iaload, 1) := by decide +kernel
theorem dL_law_209 : decode cL_law 209 = .ok (.aload_n 3, 1) := by decide +kernel
theorem dL_law_210 : decode cL_law 210 = .ok (.invokestatic 53, 3) := by decide +kernel
theorem dL_law_213 : decode cL_law 213 = .ok (.istore 5, 2) := by decide +kernel
theorem dL_law_215 : decode cL_law 215 = .ok (.aload_n 2, 1) := by decide +kernel
theorem dL_law_216 : decode cL_law 216 = .ok (.aload_n 0, 1) := by decide +kernel
theorem dL_law_217 : decode cL_law 217 = .ok (.iload 4, 2) := by decide +kernel
theorem dL_law_219 : decode cL_law 219 = .ok (.iconst 1, 1) := by decide +kernel
theorem dL_law_220 : decode cL_law 220 = .ok (.iadd, 1) := by decide +kernel
theorem dL_law_221 : decode cL_law 221 = .ok (.iaload, 1) := by decide +kernel
theorem dL_law_222 : decode cL_law 222 = .ok (.aload_n 0, 1) := by decide +kernel
theorem dL_law_223 : decode cL_law 223 = .ok (.iload 4, 2) := by decide +kernel
theorem dL_law_225 : decode cL_law 225 = .ok (.iconst 2, 1) := by decide +kernel
theorem dL_law_226 : decode cL_law 226 = .ok (.iadd, 1) := by decide +kernel
theorem dL_law_227 : decode cL_law 227 = .ok (.iaload, 1) := by decide +kernel
theorem dL_law_228 : decode cL_law 228 = .ok (.invokevirtual 56, 3) := by decide +kernel
theorem dL_law_231 : decode cL_law 231 = .ok (.istore 6, 2) := by decide +kernel
theorem dL_law_233 : decode cL_law 233 = .ok (.aload_n 2, 1) := by decide +kernel
theorem dL_law_234 : decode cL_law 234 = .ok (.invokevirtual 49, 3) := by decide +kernel
theorem dL_law_237 : decode cL_law 237 = .ok (.iload 5, 2) := by decide +kernel
theorem dL_law_239 : decode cL_law 239 = .ok (.if_icmp .eq 5, 3) := by decide +kernel
theorem dL_law_242 : decode cL_law 242 = .ok (.iconst 0, 1) := by decide +kernel
theorem dL_law_243 : decode cL_law 243 = .ok (.ireturn, 1) := by decide +kernel
theorem dL_law_244 : decode cL_law 244 = .ok (.iload 5, 2) := by decide +kernel
theorem dL_law_246 : decode cL_law 246 = .ok (.ifCond .ne 22, 3) := by decide +kernel
theorem dL_law_249 : decode cL_law 249 = .ok (.aload_n 3, 1) := by decide +kernel
theorem dL_law_250 : decode cL_law 250 = .ok (.iconst 0, 1) := by decide +kernel
theorem dL_law_251 : decode cL_law 251 = .ok (.laload, 1) := by decide +kernel
theorem dL_law_252 : decode cL_law 252 = .ok (.iload 6, 2) := by decide +kernel
theorem dL_law_254 : decode cL_law 254 = .ok (.ifCond .eq 7, 3) := by decide +kernel
theorem dL_law_257 : decode cL_law 257 = .ok (.lconst 1, 1) := by decide +kernel
theorem dL_law_258 : decode cL_law 258 = .ok (.goto 4, 3) := by decide +kernel
theorem dL_law_261 : decode cL_law 261 = .ok (.lconst 0, 1) := by decide +kernel
theorem dL_law_262 : decode cL_law 262 = .ok (.lcmp, 1) := by decide +kernel
theorem dL_law_263 : decode cL_law 263 = .ok (.ifCond .eq 5, 3) := by decide +kernel
theorem dL_law_266 : decode cL_law 266 = .ok (.iconst 0, 1) := by decide +kernel
theorem dL_law_267 : decode cL_law 267 = .ok (.ireturn, 1) := by decide +kernel
theorem dL_law_268 : decode cL_law 268 = .ok (.goto 526, 3) := by decide +kernel
theorem dL_law_271 : decode cL_law 271 = .ok (.aload_n 1, 1) := by decide +kernel
theorem dL_law_272 : decode cL_law 272 = .ok (.aload_n 0, 1) := by decide +kernel
theorem dL_law_273 : decode cL_law 273 = .ok (.iload 4, 2) := by decide +kernel
theorem dL_law_275 : decode cL_law 275 = .ok (.iconst 1, 1) := by decide +kernel
theorem dL_law_276 : decode cL_law 276 = .ok (.iadd, 1) := by decide +kernel
theorem dL_law_277 : decode cL_law 277 = .ok (.iaload, 1) := by decide +kernel
theorem dL_law_278 : decode cL_law 278 = .ok (.aload_n 0, 1) := by decide +kernel
theorem dL_law_279 : decode cL_law 279 = .ok (.iload 4, 2) := by decide +kernel
theorem dL_law_281 : decode cL_law 281 = .ok (.iconst 2, 1) := by decide +kernel
theorem dL_law_282 : decode cL_law 282 = .ok (.iadd, 1) := by decide +kernel
theorem dL_law_283 : decode cL_law 283 = .ok (.iaload, 1) := by decide +kernel
theorem dL_law_284 : decode cL_law 284 = .ok (.aload_n 3, 1) := by decide +kernel
theorem dL_law_285 : decode cL_law 285 = .ok (.invokestatic 57, 3) := by decide +kernel
theorem dL_law_288 : decode cL_law 288 = .ok (.istore 5, 2) := by decide +kernel
theorem dL_law_290 : decode cL_law 290 = .ok (.aload_n 2, 1) := by decide +kernel
theorem dL_law_291 : decode cL_law 291 = .ok (.aload_n 0, 1) := by decide +kernel
theorem dL_law_292 : decode cL_law 292 = .ok (.iload 4, 2) := by decide +kernel
theorem dL_law_294 : decode cL_law 294 = .ok (.iconst 1, 1) := by decide +kernel
theorem dL_law_295 : decode cL_law 295 = .ok (.iadd, 1) := by decide +kernel
theorem dL_law_296 : decode cL_law 296 = .ok (.iaload, 1) := by decide +kernel
theorem dL_law_297 : decode cL_law 297 = .ok (.aload_n 0, 1) := by decide +kernel
theorem dL_law_298 : decode cL_law 298 = .ok (.iload 4, 2) := by decide +kernel
theorem dL_law_300 : decode cL_law 300 = .ok (.iconst 2, 1) := by decide +kernel
theorem dL_law_301 : decode cL_law 301 = .ok (.iadd, 1) := by decide +kernel
theorem dL_law_302 : decode cL_law 302 = .ok (.iaload, 1) := by decide +kernel
theorem dL_law_303 : decode cL_law 303 = .ok (.invokevirtual 59, 3) := by decide +kernel
theorem dL_law_306 : decode cL_law 306 = .ok (.istore 6, 2) := by decide +kernel
theorem dL_law_308 : decode cL_law 308 = .ok (.aload_n 2, 1) := by decide +kernel
theorem dL_law_309 : decode cL_law 309 = .ok (.invokevirtual 49, 3) := by decide +kernel
theorem dL_law_312 : decode cL_law 312 = .ok (.iload 5, 2) := by decide +kernel
theorem dL_law_314 : decode cL_law 314 = .ok (.if_icmp .eq 5, 3) := by decide +kernel
theorem dL_law_317 : decode cL_law 317 = .ok (.iconst 0, 1) := by decide +kernel
theorem dL_law_318 : decode cL_law 318 = .ok (.ireturn, 1) := by decide +kernel
theorem dL_law_319 : decode cL_law 319 = .ok (.iload 5, 2) := by decide +kernel
theorem dL_law_321 : decode cL_law 321 = .ok (.ifCond .ne 22, 3) := by decide +kernel
theorem dL_law_324 : decode cL_law 324 = .ok (.aload_n 3, 1) := by decide +kernel
theorem dL_law_325 : decode cL_law 325 = .ok (.iconst 0, 1) := by decide +kernel
theorem dL_law_326 : decode cL_law 326 = .ok (.laload, 1) := by decide +kernel
theorem dL_law_327 : decode cL_law 327 = .ok (.iload 6, 2) := by decide +kernel
theorem dL_law_329 : decode cL_law 329 = .ok (.ifCond .eq 7, 3) := by decide +kernel
theorem dL_law_332 : decode cL_law 332 = .ok (.lconst 1, 1) := by decide +kernel
theorem dL_law_333 : decode cL_law 333 = .ok (.goto 4, 3) := by decide +kernel
theorem dL_law_336 : decode cL_law 336 = .ok (.lconst 0, 1) := by decide +kernel
theorem dL_law_337 : decode cL_law 337 = .ok (.lcmp, 1) := by decide +kernel
theorem dL_law_338 : decode cL_law 338 = .ok (.ifCond .eq 5, 3) := by decide +kernel
theorem dL_law_341 : decode cL_law 341 = .ok (.iconst 0, 1) := by decide +kernel
theorem dL_law_342 : decode cL_law 342 = .ok (.ireturn, 1) := by decide +kernel
theorem dL_law_343 : decode cL_law 343 = .ok (.goto 451, 3) := by decide +kernel
theorem dL_law_346 : decode cL_law 346 = .ok (.aload_n 1, 1) := by decide +kernel
theorem dL_law_347 : decode cL_law 347 = .ok (.aload_n 0, 1) := by decide +kernel
theorem dL_law_348 : decode cL_law 348 = .ok (.iload 4, 2) := by decide +kernel
theorem dL_law_350 : decode cL_law 350 = .ok (.iconst 1, 1) := by decide +kernel
theorem dL_law_351 : decode cL_law 351 = .ok (.iadd, 1) := by decide +kernel
theorem dL_law_352 : decode cL_law 352 = .ok (.iaload, 1) := by decide +kernel
theorem dL_law_353 : decode cL_law 353 = .ok (.aload_n 3, 1) := by decide +kernel
theorem dL_law_354 : decode cL_law 354 = .ok (.invokestatic 60, 3) := by decide +kernel
theorem dL_law_357 : decode cL_law 357 = .ok (.istore 5, 2) := by decide +kernel
theorem dL_law_359 : decode cL_law 359 = .ok (.aload_n 2, 1) := by decide +kernel
theorem dL_law_360 : decode cL_law 360 = .ok (.aload_n 0, 1) := by decide +kernel
theorem dL_law_361 : decode cL_law 361 = .ok (.iload 4, 2) := by decide +kernel
theorem dL_law_363 : decode cL_law 363 = .ok (.iconst 1, 1) := by decide +kernel
theorem dL_law_364 : decode cL_law 364 = .ok (.iadd, 1) := by decide +kernel
theorem dL_law_365 : decode cL_law 365 = .ok (.iaload, 1) := by decide +kernel
theorem dL_law_366 : decode cL_law 366 = .ok (.invokevirtual 63, 3) := by decide +kernel
theorem dL_law_369 : decode cL_law 369 = .ok (.istore 6, 2) := by decide +kernel
theorem dL_law_371 : decode cL_law 371 = .ok (.aload_n 2, 1) := by decide +kernel
theorem dL_law_372 : decode cL_law 372 = .ok (.invokevirtual 49, 3) := by decide +kernel
theorem dL_law_375 : decode cL_law 375 = .ok (.iload 5, 2) := by decide +kernel
theorem dL_law_377 : decode cL_law 377 = .ok (.if_icmp .eq 5, 3) := by decide +kernel
theorem dL_law_380 : decode cL_law 380 = .ok (.iconst 0, 1) := by decide +kernel
theorem dL_law_381 : decode cL_law 381 = .ok (.ireturn, 1) := by decide +kernel
theorem dL_law_382 : decode cL_law 382 = .ok (.iload 5, 2) := by decide +kernel
theorem dL_law_384 : decode cL_law 384 = .ok (.ifCond .ne 22, 3) := by decide +kernel
theorem dL_law_387 : decode cL_law 387 = .ok (.aload_n 3, 1) := by decide +kernel
theorem dL_law_388 : decode cL_law 388 = .ok (.iconst 0, 1) := by decide +kernel
theorem dL_law_389 : decode cL_law 389 = .ok (.laload, 1) := by decide +kernel
theorem dL_law_390 : decode cL_law 390 = .ok (.iload 6, 2) := by decide +kernel
theorem dL_law_392 : decode cL_law 392 = .ok (.ifCond .eq 7, 3) := by decide +kernel
theorem dL_law_395 : decode cL_law 395 = .ok (.lconst 1, 1) := by decide +kernel
theorem dL_law_396 : decode cL_law 396 = .ok (.goto 4, 3) := by decide +kernel
theorem dL_law_399 : decode cL_law 399 = .ok (.lconst 0, 1) := by decide +kernel
theorem dL_law_400 : decode cL_law 400 = .ok (.lcmp, 1) := by decide +kernel
theorem dL_law_401 : decode cL_law 401 = .ok (.ifCond .eq 5, 3) := by decide +kernel
theorem dL_law_404 : decode cL_law 404 = .ok (.iconst 0, 1) := by decide +kernel
theorem dL_law_405 : decode cL_law 405 = .ok (.ireturn, 1) := by decide +kernel
theorem dL_law_406 : decode cL_law 406 = .ok (.goto 388, 3) := by decide +kernel
theorem dL_law_409 : decode cL_law 409 = .ok (.aload_n 1, 1) := by decide +kernel
theorem dL_law_410 : decode cL_law 410 = .ok (.aload_n 0, 1) := by decide +kernel
theorem dL_law_411 : decode cL_law 411 = .ok (.iload 4, 2) := by decide +kernel
theorem dL_law_413 : decode cL_law 413 = .ok (.iconst 1, 1) := by decide +kernel
theorem dL_law_414 : decode cL_law 414 = .ok (.iadd, 1) := by decide +kernel
theorem dL_law_415 : decode cL_law 415 = .ok (.iaload, 1) := by decide +kernel
theorem dL_law_416 : decode cL_law 416 = .ok (.aload_n 3, 1) := by decide +kernel
theorem dL_law_417 : decode cL_law 417 = .ok (.invokestatic 64, 3) := by decide +kernel
theorem dL_law_420 : decode cL_law 420 = .ok (.istore 5, 2) := by decide +kernel
theorem dL_law_422 : decode cL_law 422 = .ok (.aload_n 2, 1) := by decide +kernel
theorem dL_law_423 : decode cL_law 423 = .ok (.aload_n 0, 1) := by decide +kernel
theorem dL_law_424 : decode cL_law 424 = .ok (.iload 4, 2) := by decide +kernel
theorem dL_law_426 : decode cL_law 426 = .ok (.iconst 1, 1) := by decide +kernel
theorem dL_law_427 : decode cL_law 427 = .ok (.iadd, 1) := by decide +kernel
theorem dL_law_428 : decode cL_law 428 = .ok (.iaload, 1) := by decide +kernel
theorem dL_law_429 : decode cL_law 429 = .ok (.invokevirtual 66, 3) := by decide +kernel
theorem dL_law_432 : decode cL_law 432 = .ok (.istore 6, 2) := by decide +kernel
theorem dL_law_434 : decode cL_law 434 = .ok (.aload_n 2, 1) := by decide +kernel
theorem dL_law_435 : decode cL_law 435 = .ok (.invokevirtual 49, 3) := by decide +kernel
theorem dL_law_438 : decode cL_law 438 = .ok (.iload 5, 2) := by decide +kernel
theorem dL_law_440 : decode cL_law 440 = .ok (.if_icmp .eq 5, 3) := by decide +kernel
theorem dL_law_443 : decode cL_law 443 = .ok (.iconst 0, 1) := by decide +kernel
theorem dL_law_444 : decode cL_law 444 = .ok (.ireturn, 1) := by decide +kernel
theorem dL_law_445 : decode cL_law 445 = .ok (.iload 5, 2) := by decide +kernel
theorem dL_law_447 : decode cL_law 447 = .ok (.ifCond .ne 22, 3) := by decide +kernel
theorem dL_law_450 : decode cL_law 450 = .ok (.aload_n 3, 1) := by decide +kernel
theorem dL_law_451 : decode cL_law 451 = .ok (.iconst 0, 1) := by decide +kernel
theorem dL_law_452 : decode cL_law 452 = .ok (.laload, 1) := by decide +kernel
theorem dL_law_453 : decode cL_law 453 = .ok (.iload 6, 2) := by decide +kernel
theorem dL_law_455 : decode cL_law 455 = .ok (.ifCond .eq 7, 3) := by decide +kernel
theorem dL_law_458 : decode cL_law 458 = .ok (.lconst 1, 1) := by decide +kernel
theorem dL_law_459 : decode cL_law 459 = .ok (.goto 4, 3) := by decide +kernel
theorem dL_law_462 : decode cL_law 462 = .ok (.lconst 0, 1) := by decide +kernel
theorem dL_law_463 : decode cL_law 463 = .ok (.lcmp, 1) := by decide +kernel
theorem dL_law_464 : decode cL_law 464 = .ok (.ifCond .eq 5, 3) := by decide +kernel
theorem dL_law_467 : decode cL_law 467 = .ok (.iconst 0, 1) := by decide +kernel
theorem dL_law_468 : decode cL_law 468 = .ok (.ireturn, 1) := by decide +kernel
theorem dL_law_469 : decode cL_law 469 = .ok (.goto 325, 3) := by decide +kernel
theorem dL_law_472 : decode cL_law 472 = .ok (.aload_n 1, 1) := by decide +kernel
theorem dL_law_473 : decode cL_law 473 = .ok (.aload_n 0, 1) := by decide +kernel
theorem dL_law_474 : decode cL_law 474 = .ok (.iload 4, 2) := by decide +kernel
theorem dL_law_476 : decode cL_law 476 = .ok (.iconst 1, 1) := by decide +kernel
theorem dL_law_477 : decode cL_law 477 = .ok (.iadd, 1) := by decide +kernel
theorem dL_law_478 : decode cL_law 478 = .ok (.iaload, 1) := by decide +kernel
theorem dL_law_479 : decode cL_law 479 = .ok (.aload_n 3, 1) := by decide +kernel
theorem dL_law_480 : decode cL_law 480 = .ok (.invokestatic 67, 3) := by decide +kernel
theorem dL_law_483 : decode cL_law 483 = .ok (.istore 5, 2) := by decide +kernel
theorem dL_law_485 : decode cL_law 485 = .ok (.aload_n 2, 1) := by decide +kernel
theorem dL_law_486 : decode cL_law 486 = .ok (.aload_n 0, 1) := by decide +kernel
theorem dL_law_487 : decode cL_law 487 = .ok (.iload 4, 2) := by decide +kernel
theorem dL_law_489 : decode cL_law 489 = .ok (.iconst 1, 1) := by decide +kernel
theorem dL_law_490 : decode cL_law 490 = .ok (.iadd, 1) := by decide +kernel
theorem dL_law_491 : decode cL_law 491 = .ok (.iaload, 1) := by decide +kernel
theorem dL_law_492 : decode cL_law 492 = .ok (.invokevirtual 69, 3) := by decide +kernel
theorem dL_law_495 : decode cL_law 495 = .ok (.istore 6, 2) := by decide +kernel
theorem dL_law_497 : decode cL_law 497 = .ok (.aload_n 2, 1) := by decide +kernel
theorem dL_law_498 : decode cL_law 498 = .ok (.invokevirtual 49, 3) := by decide +kernel
theorem dL_law_501 : decode cL_law 501 = .ok (.iload 5, 2) := by decide +kernel
theorem dL_law_503 : decode cL_law 503 = .ok (.if_icmp .eq 5, 3) := by decide +kernel
theorem dL_law_506 : decode cL_law 506 = .ok (.iconst 0, 1) := by decide +kernel
theorem dL_law_507 : decode cL_law 507 = .ok (.ireturn, 1) := by decide +kernel
theorem dL_law_508 : decode cL_law 508 = .ok (.iload 5, 2) := by decide +kernel
theorem dL_law_510 : decode cL_law 510 = .ok (.ifCond .ne 15, 3) := by decide +kernel
theorem dL_law_513 : decode cL_law 513 = .ok (.aload_n 3, 1) := by decide +kernel
theorem dL_law_514 : decode cL_law 514 = .ok (.iconst 0, 1) := by decide +kernel
theorem dL_law_515 : decode cL_law 515 = .ok (.laload, 1) := by decide +kernel
theorem dL_law_516 : decode cL_law 516 = .ok (.iload 6, 2) := by decide +kernel
theorem dL_law_518 : decode cL_law 518 = .ok (.i2l, 1) := by decide +kernel
theorem dL_law_519 : decode cL_law 519 = .ok (.lcmp, 1) := by decide +kernel
theorem dL_law_520 : decode cL_law 520 = .ok (.ifCond .eq 5, 3) := by decide +kernel
theorem dL_law_523 : decode cL_law 523 = .ok (.iconst 0, 1) := by decide +kernel
theorem dL_law_524 : decode cL_law 524 = .ok (.ireturn, 1) := by decide +kernel
theorem dL_law_525 : decode cL_law 525 = .ok (.goto 269, 3) := by decide +kernel
theorem dL_law_528 : decode cL_law 528 = .ok (.aload_n 1, 1) := by decide +kernel
theorem dL_law_529 : decode cL_law 529 = .ok (.aload_n 0, 1) := by decide +kernel
theorem dL_law_530 : decode cL_law 530 = .ok (.iload 4, 2) := by decide +kernel
theorem dL_law_532 : decode cL_law 532 = .ok (.iconst 1, 1) := by decide +kernel
theorem dL_law_533 : decode cL_law 533 = .ok (.iadd, 1) := by decide +kernel
theorem dL_law_534 : decode cL_law 534 = .ok (.iaload, 1) := by decide +kernel
theorem dL_law_535 : decode cL_law 535 = .ok (.aload_n 0, 1) := by decide +kernel
theorem dL_law_536 : decode cL_law 536 = .ok (.iload 4, 2) := by decide +kernel
theorem dL_law_538 : decode cL_law 538 = .ok (.iconst 2, 1) := by decide +kernel
theorem dL_law_539 : decode cL_law 539 = .ok (.iadd, 1) := by decide +kernel
theorem dL_law_540 : decode cL_law 540 = .ok (.iaload, 1) := by decide +kernel
theorem dL_law_541 : decode cL_law 541 = .ok (.aload_n 0, 1) := by decide +kernel
theorem dL_law_542 : decode cL_law 542 = .ok (.iload 4, 2) := by decide +kernel
theorem dL_law_544 : decode cL_law 544 = .ok (.iconst 3, 1) := by decide +kernel
theorem dL_law_545 : decode cL_law 545 = .ok (.iadd, 1) := by decide +kernel
theorem dL_law_546 : decode cL_law 546 = .ok (.iaload, 1) := by decide +kernel
theorem dL_law_547 : decode cL_law 547 = .ok (.invokevirtual 70, 3) := by decide +kernel
theorem dL_law_550 : decode cL_law 550 = .ok (.aload_n 2, 1) := by decide +kernel
theorem dL_law_551 : decode cL_law 551 = .ok (.aload_n 0, 1) := by decide +kernel
theorem dL_law_552 : decode cL_law 552 = .ok (.iload 4, 2) := by decide +kernel
theorem dL_law_554 : decode cL_law 554 = .ok (.iconst 1, 1) := by decide +kernel
theorem dL_law_555 : decode cL_law 555 = .ok (.iadd, 1) := by decide +kernel
theorem dL_law_556 : decode cL_law 556 = .ok (.iaload, 1) := by decide +kernel
theorem dL_law_557 : decode cL_law 557 = .ok (.aload_n 0, 1) := by decide +kernel
theorem dL_law_558 : decode cL_law 558 = .ok (.iload 4, 2) := by decide +kernel
theorem dL_law_560 : decode cL_law 560 = .ok (.iconst 2, 1) := by decide +kernel
theorem dL_law_561 : decode cL_law 561 = .ok (.iadd, 1) := by decide +kernel
theorem dL_law_562 : decode cL_law 562 = .ok (.iaload, 1) := by decide +kernel
theorem dL_law_563 : decode cL_law 563 = .ok (.aload_n 0, 1) := by decide +kernel
theorem dL_law_564 : decode cL_law 564 = .ok (.iload 4, 2) := by decide +kernel
theorem dL_law_566 : decode cL_law 566 = .ok (.iconst 3, 1) := by decide +kernel
theorem dL_law_567 : decode cL_law 567 = .ok (.iadd, 1) := by decide +kernel
theorem dL_law_568 : decode cL_law 568 = .ok (.iaload, 1) := by decide +kernel
theorem dL_law_569 : decode cL_law 569 = .ok (.invokevirtual 73, 3) := by decide +kernel
theorem dL_law_572 : decode cL_law 572 = .ok (.if_icmp .eq 222, 3) := by decide +kernel
theorem dL_law_575 : decode cL_law 575 = .ok (.iconst 0, 1) := by decide +kernel
theorem dL_law_576 : decode cL_law 576 = .ok (.ireturn, 1) := by decide +kernel
theorem dL_law_577 : decode cL_law 577 = .ok (.aload_n 1, 1) := by decide +kernel
theorem dL_law_578 : decode cL_law 578 = .ok (.invokevirtual 74, 3) := by decide +kernel
theorem dL_law_581 : decode cL_law 581 = .ok (.aload_n 2, 1) := by decide +kernel
theorem dL_law_582 : decode cL_law 582 = .ok (.invokevirtual 77, 3) := by decide +kernel
theorem dL_law_585 : decode cL_law 585 = .ok (.if_icmp .eq 209, 3) := by decide +kernel
theorem dL_law_588 : decode cL_law 588 = .ok (.iconst 0, 1) := by decide +kernel
theorem dL_law_589 : decode cL_law 589 = .ok (.ireturn, 1) := by decide +kernel
theorem dL_law_590 : decode cL_law 590 = .ok (.aload_n 1, 1) := by decide +kernel
theorem dL_law_591 : decode cL_law 591 = .ok (.aload_n 0, 1) := by decide +kernel
theorem dL_law_592 : decode cL_law 592 = .ok (.iload 4, 2) := by decide +kernel
theorem dL_law_594 : decode cL_law 594 = .ok (.iconst 1, 1) := by decide +kernel
theorem dL_law_595 : decode cL_law 595 = .ok (.iadd, 1) := by decide +kernel
theorem dL_law_596 : decode cL_law 596 = .ok (.iaload, 1) := by decide +kernel
theorem dL_law_597 : decode cL_law 597 = .ok (.aload_n 0, 1) := by decide +kernel
theorem dL_law_598 : decode cL_law 598 = .ok (.iload 4, 2) := by decide +kernel
theorem dL_law_600 : decode cL_law 600 = .ok (.iconst 2, 1) := by decide +kernel
theorem dL_law_601 : decode cL_law 601 = .ok (.iadd, 1) := by decide +kernel
theorem dL_law_602 : decode cL_law 602 = .ok (.iaload, 1) := by decide +kernel
theorem dL_law_603 : decode cL_law 603 = .ok (.invokevirtual 78, 3) := by decide +kernel
theorem dL_law_606 : decode cL_law 606 = .ok (.aload_n 2, 1) := by decide +kernel
theorem dL_law_607 : decode cL_law 607 = .ok (.aload_n 0, 1) := by decide +kernel
theorem dL_law_608 : decode cL_law 608 = .ok (.iload 4, 2) := by decide +kernel
theorem dL_law_610 : decode cL_law 610 = .ok (.iconst 1, 1) := by decide +kernel
theorem dL_law_611 : decode cL_law 611 = .ok (.iadd, 1) := by decide +kernel
theorem dL_law_612 : decode cL_law 612 = .ok (.iaload, 1) := by decide +kernel
theorem dL_law_613 : decode cL_law 613 = .ok (.aload_n 0, 1) := by decide +kernel
theorem dL_law_614 : decode cL_law 614 = .ok (.iload 4, 2) := by decide +kernel
theorem dL_law_616 : decode cL_law 616 = .ok (.iconst 2, 1) := by decide +kernel
theorem dL_law_617 : decode cL_law 617 = .ok (.iadd, 1) := by decide +kernel
theorem dL_law_618 : decode cL_law 618 = .ok (.iaload, 1) := by decide +kernel
theorem dL_law_619 : decode cL_law 619 = .ok (.invokevirtual 82, 3) := by decide +kernel
theorem dL_law_622 : decode cL_law 622 = .ok (.if_icmp .eq 172, 3) := by decide +kernel
theorem dL_law_625 : decode cL_law 625 = .ok (.iconst 0, 1) := by decide +kernel
theorem dL_law_626 : decode cL_law 626 = .ok (.ireturn, 1) := by decide +kernel
theorem dL_law_627 : decode cL_law 627 = .ok (.aload_n 1, 1) := by decide +kernel
theorem dL_law_628 : decode cL_law 628 = .ok (.aload_n 0, 1) := by decide +kernel
theorem dL_law_629 : decode cL_law 629 = .ok (.iload 4, 2) := by decide +kernel
theorem dL_law_631 : decode cL_law 631 = .ok (.iconst 1, 1) := by decide +kernel
theorem dL_law_632 : decode cL_law 632 = .ok (.iadd, 1) := by decide +kernel
theorem dL_law_633 : decode cL_law 633 = .ok (.iaload, 1) := by decide +kernel
theorem dL_law_634 : decode cL_law 634 = .ok (.aload_n 0, 1) := by decide +kernel
theorem dL_law_635 : decode cL_law 635 = .ok (.iload 4, 2) := by decide +kernel
theorem dL_law_637 : decode cL_law 637 = .ok (.iconst 2, 1) := by decide +kernel
theorem dL_law_638 : decode cL_law 638 = .ok (.iadd, 1) := by decide +kernel
theorem dL_law_639 : decode cL_law 639 = .ok (.iaload, 1) := by decide +kernel
theorem dL_law_640 : decode cL_law 640 = .ok (.invokevirtual 83, 3) := by decide +kernel
theorem dL_law_643 : decode cL_law 643 = .ok (.aload_n 2, 1) := by decide +kernel
theorem dL_law_644 : decode cL_law 644 = .ok (.aload_n 0, 1) := by decide +kernel
theorem dL_law_645 : decode cL_law 645 = .ok (.iload 4, 2) := by decide +kernel
theorem dL_law_647 : decode cL_law 647 = .ok (.iconst 1, 1) := by decide +kernel
theorem dL_law_648 : decode cL_law 648 = .ok (.iadd, 1) := by decide +kernel
theorem dL_law_649 : decode cL_law 649 = .ok (.iaload, 1) := by decide +kernel
theorem dL_law_650 : decode cL_law 650 = .ok (.aload_n 0, 1) := by decide +kernel
theorem dL_law_651 : decode cL_law 651 = .ok (.iload 4, 2) := by decide +kernel
theorem dL_law_653 : decode cL_law 653 = .ok (.iconst 2, 1) := by decide +kernel
theorem dL_law_654 : decode cL_law 654 = .ok (.iadd, 1) := by decide +kernel
theorem dL_law_655 : decode cL_law 655 = .ok (.iaload, 1) := by decide +kernel
theorem dL_law_656 : decode cL_law 656 = .ok (.invokevirtual 86, 3) := by decide +kernel
theorem dL_law_659 : decode cL_law 659 = .ok (.if_icmp .eq 135, 3) := by decide +kernel
theorem dL_law_662 : decode cL_law 662 = .ok (.iconst 0, 1) := by decide +kernel
theorem dL_law_663 : decode cL_law 663 = .ok (.ireturn, 1) := by decide +kernel
theorem dL_law_664 : decode cL_law 664 = .ok (.aload_n 1, 1) := by decide +kernel
theorem dL_law_665 : decode cL_law 665 = .ok (.aload_n 0, 1) := by decide +kernel
theorem dL_law_666 : decode cL_law 666 = .ok (.iload 4, 2) := by decide +kernel
theorem dL_law_668 : decode cL_law 668 = .ok (.iconst 1, 1) := by decide +kernel
theorem dL_law_669 : decode cL_law 669 = .ok (.iadd, 1) := by decide +kernel
theorem dL_law_670 : decode cL_law 670 = .ok (.iaload, 1) := by decide +kernel
theorem dL_law_671 : decode cL_law 671 = .ok (.aload_n 0, 1) := by decide +kernel
theorem dL_law_672 : decode cL_law 672 = .ok (.iload 4, 2) := by decide +kernel
theorem dL_law_674 : decode cL_law 674 = .ok (.iconst 2, 1) := by decide +kernel
theorem dL_law_675 : decode cL_law 675 = .ok (.iadd, 1) := by decide +kernel
theorem dL_law_676 : decode cL_law 676 = .ok (.iaload, 1) := by decide +kernel
theorem dL_law_677 : decode cL_law 677 = .ok (.aload_n 0, 1) := by decide +kernel
theorem dL_law_678 : decode cL_law 678 = .ok (.iload 4, 2) := by decide +kernel
theorem dL_law_680 : decode cL_law 680 = .ok (.iconst 3, 1) := by decide +kernel
theorem dL_law_681 : decode cL_law 681 = .ok (.iadd, 1) := by decide +kernel
theorem dL_law_682 : decode cL_law 682 = .ok (.iaload, 1) := by decide +kernel
theorem dL_law_683 : decode cL_law 683 = .ok (.aload_n 3, 1) := by decide +kernel
theorem dL_law_684 : decode cL_law 684 = .ok (.invokestatic 87, 3) := by decide +kernel
theorem dL_law_687 : decode cL_law 687 = .ok (.istore 5, 2) := by decide +kernel
theorem dL_law_689 : decode cL_law 689 = .ok (.aload_n 2, 1) := by decide +kernel
theorem dL_law_690 : decode cL_law 690 = .ok (.aload_n 0, 1) := by decide +kernel
theorem dL_law_691 : decode cL_law 691 = .ok (.iload 4, 2) := by decide +kernel
theorem dL_law_693 : decode cL_law 693 = .ok (.iconst 1, 1) := by decide +kernel
theorem dL_law_694 : decode cL_law 694 = .ok (.iadd, 1) := by decide +kernel
theorem dL_law_695 : decode cL_law 695 = .ok (.iaload, 1) := by decide +kernel
theorem dL_law_696 : decode cL_law 696 = .ok (.aload_n 0, 1) := by decide +kernel
theorem dL_law_697 : decode cL_law 697 = .ok (.iload 4, 2) := by decide +kernel
theorem dL_law_699 : decode cL_law 699 = .ok (.iconst 2, 1) := by decide +kernel
theorem dL_law_700 : decode cL_law 700 = .ok (.iadd, 1) := by decide +kernel
theorem dL_law_701 : decode cL_law 701 = .ok (.iaload, 1) := by decide +kernel
theorem dL_law_702 : decode cL_law 702 = .ok (.aload_n 0, 1) := by decide +kernel
theorem dL_law_703 : decode cL_law 703 = .ok (.iload 4, 2) := by decide +kernel
theorem dL_law_705 : decode cL_law 705 = .ok (.iconst 3, 1) := by decide +kernel
theorem dL_law_706 : decode cL_law 706 = .ok (.iadd, 1) := by decide +kernel
theorem dL_law_707 : decode cL_law 707 = .ok (.iaload, 1) := by decide +kernel
theorem dL_law_708 : decode cL_law 708 = .ok (.invokevirtual 90, 3) := by decide +kernel
theorem dL_law_711 : decode cL_law 711 = .ok (.istore 6, 2) := by decide +kernel
theorem dL_law_713 : decode cL_law 713 = .ok (.aload_n 2, 1) := by decide +kernel
theorem dL_law_714 : decode cL_law 714 = .ok (.invokevirtual 49, 3) := by decide +kernel
theorem dL_law_717 : decode cL_law 717 = .ok (.iload 5, 2) := by decide +kernel
theorem dL_law_719 : decode cL_law 719 = .ok (.if_icmp .eq 5, 3) := by decide +kernel
theorem dL_law_722 : decode cL_law 722 = .ok (.iconst 0, 1) := by decide +kernel
theorem dL_law_723 : decode cL_law 723 = .ok (.ireturn, 1) := by decide +kernel
theorem dL_law_724 : decode cL_law 724 = .ok (.iload 5, 2) := by decide +kernel
theorem dL_law_726 : decode cL_law 726 = .ok (.ifCond .ne 15, 3) := by decide +kernel
theorem dL_law_729 : decode cL_law 729 = .ok (.aload_n 3, 1) := by decide +kernel
theorem dL_law_730 : decode cL_law 730 = .ok (.iconst 0, 1) := by decide +kernel
theorem dL_law_731 : decode cL_law 731 = .ok (.laload, 1) := by decide +kernel
theorem dL_law_732 : decode cL_law 732 = .ok (.iload 6, 2) := by decide +kernel
theorem dL_law_734 : decode cL_law 734 = .ok (.i2l, 1) := by decide +kernel
theorem dL_law_735 : decode cL_law 735 = .ok (.lcmp, 1) := by decide +kernel
theorem dL_law_736 : decode cL_law 736 = .ok (.ifCond .eq 5, 3) := by decide +kernel
theorem dL_law_739 : decode cL_law 739 = .ok (.iconst 0, 1) := by decide +kernel
theorem dL_law_740 : decode cL_law 740 = .ok (.ireturn, 1) := by decide +kernel
theorem dL_law_741 : decode cL_law 741 = .ok (.goto 53, 3) := by decide +kernel
theorem dL_law_744 : decode cL_law 744 = .ok (.aload_n 1, 1) := by decide +kernel
theorem dL_law_745 : decode cL_law 745 = .ok (.aload_n 0, 1) := by decide +kernel
theorem dL_law_746 : decode cL_law 746 = .ok (.iload 4, 2) := by decide +kernel
theorem dL_law_748 : decode cL_law 748 = .ok (.iconst 1, 1) := by decide +kernel
theorem dL_law_749 : decode cL_law 749 = .ok (.iadd, 1) := by decide +kernel
theorem dL_law_750 : decode cL_law 750 = .ok (.iaload, 1) := by decide +kernel
theorem dL_law_751 : decode cL_law 751 = .ok (.aload_n 0, 1) := by decide +kernel
theorem dL_law_752 : decode cL_law 752 = .ok (.iload 4, 2) := by decide +kernel
theorem dL_law_754 : decode cL_law 754 = .ok (.iconst 2, 1) := by decide +kernel
theorem dL_law_755 : decode cL_law 755 = .ok (.iadd, 1) := by decide +kernel
theorem dL_law_756 : decode cL_law 756 = .ok (.iaload, 1) := by decide +kernel
theorem dL_law_757 : decode cL_law 757 = .ok (.invokevirtual 91, 3) := by decide +kernel
theorem dL_law_760 : decode cL_law 760 = .ok (.aload_n 2, 1) := by decide +kernel
theorem dL_law_761 : decode cL_law 761 = .ok (.aload_n 0, 1) := by decide +kernel
theorem dL_law_762 : decode cL_law 762 = .ok (.iload 4, 2) := by decide +kernel
theorem dL_law_764 : decode cL_law 764 = .ok (.iconst 1, 1) := by decide +kernel
theorem dL_law_765 : decode cL_law 765 = .ok (.iadd, 1) := by decide +kernel
theorem dL_law_766 : decode cL_law 766 = .ok (.iaload, 1) := by decide +kernel
theorem dL_law_767 : decode cL_law 767 = .ok (.aload_n 0, 1) := by decide +kernel
theorem dL_law_768 : decode cL_law 768 = .ok (.iload 4, 2) := by decide +kernel
theorem dL_law_770 : decode cL_law 770 = .ok (.iconst 2, 1) := by decide +kernel
theorem dL_law_771 : decode cL_law 771 = .ok (.iadd, 1) := by decide +kernel
theorem dL_law_772 : decode cL_law 772 = .ok (.iaload, 1) := by decide +kernel
theorem dL_law_773 : decode cL_law 773 = .ok (.invokevirtual 94, 3) := by decide +kernel
theorem dL_law_776 : decode cL_law 776 = .ok (.if_icmp .eq 18, 3) := by decide +kernel
theorem dL_law_779 : decode cL_law 779 = .ok (.iconst 0, 1) := by decide +kernel
theorem dL_law_780 : decode cL_law 780 = .ok (.ireturn, 1) := by decide +kernel
theorem dL_law_781 : decode cL_law 781 = .ok (.aload_n 1, 1) := by decide +kernel
theorem dL_law_782 : decode cL_law 782 = .ok (.invokevirtual 95, 3) := by decide +kernel
theorem dL_law_785 : decode cL_law 785 = .ok (.aload_n 2, 1) := by decide +kernel
theorem dL_law_786 : decode cL_law 786 = .ok (.invokevirtual 99, 3) := by decide +kernel
theorem dL_law_789 : decode cL_law 789 = .ok (.if_icmp .eq 5, 3) := by decide +kernel
theorem dL_law_792 : decode cL_law 792 = .ok (.iconst 0, 1) := by decide +kernel
theorem dL_law_793 : decode cL_law 793 = .ok (.ireturn, 1) := by decide +kernel
theorem dL_law_794 : decode cL_law 794 = .ok (.iinc 4 5, 3) := by decide +kernel
theorem dL_law_797 : decode cL_law 797 = .ok (.goto (-774), 3) := by decide +kernel
theorem dL_law_800 : decode cL_law 800 = .ok (.iconst 1, 1) := by decide +kernel
theorem dL_law_801 : decode cL_law 801 = .ok (.ireturn, 1) := by decide +kernel
end
section
/-! GENERIC ROWS: worlds are lists ws; a contract goes from a world w0 to a world w1; N: words (of nest links) that a start carries. -/
section KX
variable {p : Program} {l : Launch} {e : Env} {R : Room} {s : State} {m : MethodId} {args : Array Value} {below : List Frame} {meth : Method} {c : Code} {H : Heap} {locs : List Loc} {cells slots : Nat} {Q : State → Prop}
variable {cc : ByteArray} {pc nL : Nat} {ls : Array Slot} {rest st : List Value} {D : va_G} {A : Nat → Prop} {tys : List (ClassId × FieldType)} {Ts : List Cond} {own : String} {ws w1 : va_W} {N : List Cond}
def kN (N : List Cond) (U : State) : Prop := ∀ w ∈ N, va_Nw w U
def kNok (N : List Cond) : Prop := ∀ w ∈ N, w.onTables = true ∧ ∀ s U : State, s.WarmedH U.vm → va_Nw w s → va_Nw w U
theorem kN.warm (ok : kNok N) {s U : State} (h : s.WarmedH U.vm) (hN : kN N s) : kN N U := fun w hw => (ok w hw).2 s U h (hN w hw)
theorem kN.same (ok : kNok N) {U V : State} (h : U.vm = V.vm) (hN : kN N U) : kN N V := fun w hw => va_Nw.same (ok w hw).1 h (hN w hw)
theorem kNok.nil : kNok [] := fun _ h => absurd h List.not_mem_nil
theorem kN.nil (U : State) : kN [] U := fun _ h => absurd h List.not_mem_nil
def kP (D : va_G) (tys : List (ClassId × FieldType)) (N : List Cond) (w0 : va_W) (sz : Nat) (U : State) : Prop := U.heap.size = sz ∧ va_P D vwCl w0 U.heap ∧ va_K D vwCl tys U ∧ kN N U ∧ va_D (fun _ => True) w0
def kB (D : va_G) (w0 w1 : va_W) (sz : Nat) (t : State) : Prop := va_P D vwCl w1 t.heap ∧ va_D (va_A w0 sz) w1
abbrev kQv (D : va_G) (w0 w1 : va_W) (sz : Nat) : Array Value → State → Outcome → State → Prop := va_Qv (fun _ : Unit => True) (fun _ t => kB D w0 w1 sz t) (va_A w0 sz)
abbrev kQi (D : va_G) (w0 w1 : va_W) (r : Int32) (sz : Nat) : Array Value → State → Outcome → State → Prop := va_Qi (fun (v : Int32) (_ : Unit) => v = r) (fun _ t => kB D w0 w1 sz t) (va_A w0 sz)
abbrev kQl (D : va_G) (w0 w1 : va_W) (r : Int64) (sz : Nat) : Array Value → State → Outcome → State → Prop := va_Ql (fun (v : Int64) (_ : Unit) => v = r) (fun _ t => kB D w0 w1 sz t) (va_A w0 sz)
abbrev kWs (y : MethodName) (cc : ByteArray) (n : Nat) (ret : Option FieldType) : List Cond := Cond.code y cc n ret :: gw
abbrev kRm (d mc ms : Nat) : Room := { frames := d, cells := mc, slots := ms, locals := 32 * d }
abbrev MetV (l : Launch) (y : MethodName) (cc : ByteArray) (n : Nat) (rm : Room) (D : va_G) (tys : List (ClassId × FieldType)) (N : List Cond) (av : List Value) (w0 w1 : va_W) (mc ms : Nat) : Prop :=
  ∀ sz : Nat, Met l y (kWs y cc n none) rm (va_Pc av (kP D tys N w0 sz)) (kQv D w0 w1 sz) mc ms (va_A w0 sz)
abbrev MetI (l : Launch) (y : MethodName) (cc : ByteArray) (n : Nat) (ret : FieldType) (rm : Room) (D : va_G) (tys : List (ClassId × FieldType)) (N : List Cond) (av : List Value) (w0 w1 : va_W) (r : Int32) (mc ms : Nat) : Prop :=
  ∀ sz : Nat, Met l y (kWs y cc n (some ret)) rm (va_Pc av (kP D tys N w0 sz)) (kQi D w0 w1 r sz) mc ms (va_A w0 sz)
abbrev MetL (l : Launch) (y : MethodName) (cc : ByteArray) (n : Nat) (rm : Room) (D : va_G) (tys : List (ClassId × FieldType)) (N : List Cond) (av : List Value) (w0 w1 : va_W) (r : Int64) (mc ms : Nat) : Prop :=
  ∀ sz : Nat, Met l y (kWs y cc n (some .long)) rm (va_Pc av (kP D tys N w0 sz)) (kQl D w0 w1 r sz) mc ms (va_A w0 sz)
theorem kblind {av : List Value} {w0 : va_W} {sz : Nat} (ok : kNok N) : FrameBlind (va_Pc av (kP D tys N w0 sz)) := fun a U g mk q => by
  obtain ⟨q0, q1, qP, qK, qN, qD⟩ := q
  exact ⟨q0, q1, qP, va_K.moved (u := U) (U := U.calling g mk a) (Vm.Alike.refl U.vm) qK, kN.same (U := U) (V := U.calling g mk a) ok rfl qN, qD⟩
theorem kfree (hD : va_D A ws) (hS : va_S A s.heap H locs) (hA : ∀ q, s.heap.size ≤ q → A q) : ∀ q, va_A ws H.size q → A q := by
  intro q h
  rcases h with ⟨k, e, h⟩ | h
  · exact hD.2 k (q, e) h
  · exact hA q (Nat.le_trans hS.1 h)
theorem kpre {av : List Value} (ok : kNok N) (hN : kN N s) (hK : va_K D vwCl tys s) (hP : va_P D vwCl ws H) (hD : va_D A ws) : ∀ U : State, U.heap = H → s.WarmedH U.vm → va_Pc av (kP D tys N ws H.size) av.toArray U :=
  fun U hU hW => ⟨rfl, by rw [hU], by rw [hU]; exact hP, va_K.moved hW.alike hK, kN.warm ok hW hN, hD.weaken (fun _ _ _ _ => trivial)⟩
theorem kgo_v {mc ms : Nat} {a : Array Value} (hr : va_Run p l e R s m args below meth c H locs cells slots mc ms (F0 m pc ls st) rest (kQv D ws w1 H.size a) (va_A ws H.size)) (hD : va_D A ws) (hS : va_S A s.heap H locs) (hA : ∀ q, s.heap.size ≤ q → A q)
    (kk : ∀ (H1 : Heap) (locs1 : List Loc), va_P D vwCl w1 H1 → va_D A w1 → va_S A s.heap H1 locs1 → W p l e R s m args below meth c H1 locs1 (cells + mc) (slots + ms) Q (F0 m (pc + 3) ls rest)) : W p l e R s m args below meth c H locs cells slots Q (F0 m pc ls st) := by
  have hF := kfree hD hS hA
  refine va_callv hr hS (fun q _ h => hF q h) hF (fun u t H1 locs1 ht hvm hw hB hz1 hk1 hS1 => ?_)
  obtain ⟨hP1, hD1⟩ := hB
  rw [ht] at hP1
  exact kk H1 locs1 hP1 (hD1.weaken (fun k q _ h => hF q.1 h)) hS1
theorem kgo_i {mc ms : Nat} {a : Array Value} {r : Int32} (hr : va_Run p l e R s m args below meth c H locs cells slots mc ms (F0 m pc ls st) rest (kQi D ws w1 r H.size a) (va_A ws H.size)) (hD : va_D A ws) (hS : va_S A s.heap H locs) (hA : ∀ q, s.heap.size ≤ q → A q)
    (kk : ∀ (H1 : Heap) (locs1 : List Loc), va_P D vwCl w1 H1 → va_D A w1 → va_S A s.heap H1 locs1 → W p l e R s m args below meth c H1 locs1 (cells + mc) (slots + ms) Q (F0 m (pc + 3) ls (.int r :: rest))) : W p l e R s m args below meth c H locs cells slots Q (F0 m pc ls st) := by
  have hF := kfree hD hS hA
  refine va_calli hr hS (fun q _ h => hF q h) hF (fun v u t H1 locs1 ht hvm hw hB hz1 hk1 hS1 => ?_)
  obtain ⟨hP1, hD1⟩ := hB
  rw [ht] at hP1
  rw [hw]
  exact kk H1 locs1 hP1 (hD1.weaken (fun k q _ h => hF q.1 h)) hS1
theorem kgo_l {mc ms : Nat} {a : Array Value} {r : Int64} (hr : va_Run p l e R s m args below meth c H locs cells slots mc ms (F0 m pc ls st) rest (kQl D ws w1 r H.size a) (va_A ws H.size)) (hD : va_D A ws) (hS : va_S A s.heap H locs) (hA : ∀ q, s.heap.size ≤ q → A q)
    (kk : ∀ (H1 : Heap) (locs1 : List Loc), va_P D vwCl w1 H1 → va_D A w1 → va_S A s.heap H1 locs1 → W p l e R s m args below meth c H1 locs1 (cells + mc) (slots + ms) Q (F0 m (pc + 3) ls (.long r :: rest))) : W p l e R s m args below meth c H locs cells slots Q (F0 m pc ls st) := by
  have hF := kfree hD hS hA
  refine va_calll hr hS (fun q _ h => hF q h) hF (fun v u t H1 locs1 ht hvm hw hB hz1 hk1 hS1 => ?_)
  obtain ⟨hP1, hD1⟩ := hB
  rw [ht] at hP1
  rw [hw]
  exact kk H1 locs1 hP1 (hD1.weaken (fun k q _ h => hF q.1 h)) hS1
/-- ends -/
theorem kret_v {w0 : va_W} {sz : Nat} (S : CallFix p m c cc nL s args Ts own) (hr : meth.sig.returnType = none) (hlk : meth.locks = false) (hP : va_P D vwCl w1 H) (hD : va_D (va_A w0 sz) w1) (hS : va_S (va_A w0 sz) s.heap H locs) (hdg : decode cc pc = .ok (.return_, 1)) : W p l e R s m args below meth c H locs cells slots (MQ below (kQv D w0 w1 sz) args s cells slots (va_A w0 sz)) (F0 m pc ls []) :=
  W.vret S.1 S.2.1 hr (fun t ht hW => ⟨⟨(), rfl, trivial, by rw [ht]; exact hP, hD⟩, hS.F ht⟩) hS.2.2 hdg hlk
theorem kret_i {w0 : va_W} {sz : Nat} {v r : Int32} (S : CallFix p m c cc nL s args Ts own) (hr : meth.sig.returnType = some .int) (hlk : meth.locks = false) (hP : va_P D vwCl w1 H) (hD : va_D (va_A w0 sz) w1) (hS : va_S (va_A w0 sz) s.heap H locs) (hv : v = r) (hdg : decode cc pc = .ok (.ireturn, 1)) : W p l e R s m args below meth c H locs cells slots (MQ below (kQi D w0 w1 r sz) args s cells slots (va_A w0 sz)) (F0 m pc ls [.int v]) :=
  W.iret S.1 S.2.1 hr (fun t ht hW => ⟨⟨v, (), rfl, hv, by rw [ht]; exact hP, hD⟩, hS.F ht⟩) hS.2.2 hdg hlk
theorem kret_z {w0 : va_W} {sz : Nat} {v r : Int32} (S : CallFix p m c cc nL s args Ts own) (hr : meth.sig.returnType = some .boolean) (hlk : meth.locks = false) (hP : va_P D vwCl w1 H) (hD : va_D (va_A w0 sz) w1) (hS : va_S (va_A w0 sz) s.heap H locs) (hn : narrow .boolean (.int v) = .int v) (hv : v = r) (hdg : decode cc pc = .ok (.ireturn, 1)) : W p l e R s m args below meth c H locs cells slots (MQ below (kQi D w0 w1 r sz) args s cells slots (va_A w0 sz)) (F0 m pc ls [.int v]) :=
  W.zret S.1 S.2.1 hr hn (fun t ht hW => ⟨⟨v, (), rfl, hv, by rw [ht]; exact hP, hD⟩, hS.F ht⟩) hS.2.2 hdg hlk
theorem kret_l {w0 : va_W} {sz : Nat} {v r : Int64} (S : CallFix p m c cc nL s args Ts own) (hr : meth.sig.returnType = some .long) (hlk : meth.locks = false) (hP : va_P D vwCl w1 H) (hD : va_D (va_A w0 sz) w1) (hS : va_S (va_A w0 sz) s.heap H locs) (hv : v = r) (hdg : decode cc pc = .ok (.lreturn, 1)) : W p l e R s m args below meth c H locs cells slots (MQ below (kQl D w0 w1 r sz) args s cells slots (va_A w0 sz)) (F0 m pc ls [.long v]) :=
  W.lret S.1 S.2.1 hr (fun t ht hW => ⟨⟨v, (), rfl, hv, by rw [ht]; exact hP, hD⟩, hS.F ht⟩) hS.2.2 hdg hlk
/-- the top of the stack by another name -/
theorem k_top {x y : Int32} (h : x = y) (k : W p l e R s m args below meth c H locs cells slots Q (F0 m pc ls (.int y :: rest))) : W p l e R s m args below meth c H locs cells slots Q (F0 m pc ls (.int x :: rest)) := h ▸ k
theorem k_topl {x y : Int64} (h : x = y) (k : W p l e R s m args below meth c H locs cells slots Q (F0 m pc ls (.long y :: rest))) : W p l e R s m args below meth c H locs cells slots Q (F0 m pc ls (.long x :: rest)) := h ▸ k
/-- arrays, by a natural number -/
theorem k_iald {a q0 t0 : Nat} {cA : ClassId} {n : Nat} {f : Nat → Int32} (S : CallFix p m c cc nL s args Ts own) (hK : va_K D vwCl tys s) (hP : va_P D vwCl ws H) (ha : ws[q0]? = some (a, .inl (cA, n, .inl f))) (ht : tys[t0]? = some (cA, .int)) {j : Nat} (hj : j < n) (hn : n < 2 ^ 31) (hdg : decode cc pc = .ok (.iaload, 1))
    (kk : W p l e R s m args below meth c H locs cells slots Q (F0 m (pc + 1) ls (.int (f j) :: rest))) : W p l e R s m args below meth c H locs cells slots Q (F0 m pc ls (.int (nI j) :: .ref a :: rest)) := by
  refine va_iald S.1 S.2.1 hK hP q0 t0 ha ht (vp_in_nI hj hn) hdg ?_
  rw [nI_clamp (by omega)]
  exact kk
theorem k_zald {a q0 t0 : Nat} {cA : ClassId} {n : Nat} {f : Nat → Int32} (S : CallFix p m c cc nL s args Ts own) (hK : va_K D vwCl tys s) (hP : va_P D vwCl ws H) (ha : ws[q0]? = some (a, .inl (cA, n, .inl f))) (ht : tys[t0]? = some (cA, .boolean)) {j : Nat} (hj : j < n) (hn : n < 2 ^ 31) (hdg : decode cc pc = .ok (.baload, 1))
    (kk : W p l e R s m args below meth c H locs cells slots Q (F0 m (pc + 1) ls (.int (f j) :: rest))) : W p l e R s m args below meth c H locs cells slots Q (F0 m pc ls (.int (nI j) :: .ref a :: rest)) := by
  refine va_zald S.1 S.2.1 hK hP q0 t0 ha ht (vp_in_nI hj hn) hdg ?_
  rw [nI_clamp (by omega)]
  exact kk
theorem k_lald {a q0 t0 : Nat} {cA : ClassId} {n : Nat} {f : Nat → Int64} (S : CallFix p m c cc nL s args Ts own) (hK : va_K D vwCl tys s) (hP : va_P D vwCl ws H) (ha : ws[q0]? = some (a, .inl (cA, n, .inr (.inl f)))) (ht : tys[t0]? = some (cA, .long)) {j : Nat} (hj : j < n) (hn : n < 2 ^ 31) (hdg : decode cc pc = .ok (.laload, 1))
    (kk : W p l e R s m args below meth c H locs cells slots Q (F0 m (pc + 1) ls (.long (f j) :: rest))) : W p l e R s m args below meth c H locs cells slots Q (F0 m pc ls (.int (nI j) :: .ref a :: rest)) := by
  refine va_lald S.1 S.2.1 hK hP q0 t0 ha ht (vp_in_nI hj hn) hdg ?_
  rw [nI_clamp (by omega)]
  exact kk
theorem k_iast {a q0 t0 : Nat} {cA : ClassId} {n : Nat} {f : Nat → Int32} {x : Int32} (S : CallFix p m c cc nL s args Ts own) (hK : va_K D vwCl tys s) (hP : va_P D vwCl ws H) (hD : va_D A ws) (hS : va_S A s.heap H locs) (ha : ws[q0]? = some (a, .inl (cA, n, .inl f))) (ht : tys[t0]? = some (cA, .int)) {j : Nat} (hj : j < n) (hn : n < 2 ^ 31) (hw : ws.set q0 (a, .inl (cA, n, .inl (upd f j x))) = w1) (hdg : decode cc pc = .ok (.iastore, 1))
    (kk : ∀ (H1 : Heap) (locs1 : List Loc), va_P D vwCl w1 H1 → va_D A w1 → va_S A s.heap H1 locs1 → W p l e R s m args below meth c H1 locs1 cells slots Q (F0 m (pc + 1) ls rest)) : W p l e R s m args below meth c H locs cells slots Q (F0 m pc ls (.int x :: .int (nI j) :: .ref a :: rest)) := by
  refine va_iast S.1 S.2.1 hK hP hD hS q0 t0 ha ht (vp_in_nI hj hn) hdg ?_
  rw [nI_clamp (by omega), hw]
  exact kk
theorem k_zast {a q0 t0 : Nat} {cA : ClassId} {n : Nat} {f : Nat → Int32} {x : Int32} (S : CallFix p m c cc nL s args Ts own) (hK : va_K D vwCl tys s) (hP : va_P D vwCl ws H) (hD : va_D A ws) (hS : va_S A s.heap H locs) (ha : ws[q0]? = some (a, .inl (cA, n, .inl f))) (ht : tys[t0]? = some (cA, .boolean)) {j : Nat} (hj : j < n) (hn : n < 2 ^ 31) (hx : vp_nar .boolean x = x) (hw : ws.set q0 (a, .inl (cA, n, .inl (upd f j x))) = w1) (hdg : decode cc pc = .ok (.bastore, 1))
    (kk : ∀ (H1 : Heap) (locs1 : List Loc), va_P D vwCl w1 H1 → va_D A w1 → va_S A s.heap H1 locs1 → W p l e R s m args below meth c H1 locs1 cells slots Q (F0 m (pc + 1) ls rest)) : W p l e R s m args below meth c H locs cells slots Q (F0 m pc ls (.int x :: .int (nI j) :: .ref a :: rest)) := by
  refine va_zast S.1 S.2.1 hK hP hD hS q0 t0 ha ht (vp_in_nI hj hn) hdg ?_
  rw [nI_clamp (by omega), hx, hw]
  exact kk
theorem k_last {a q0 t0 : Nat} {cA : ClassId} {n : Nat} {f : Nat → Int64} {x : Int64} (S : CallFix p m c cc nL s args Ts own) (hK : va_K D vwCl tys s) (hP : va_P D vwCl ws H) (hD : va_D A ws) (hS : va_S A s.heap H locs) (ha : ws[q0]? = some (a, .inl (cA, n, .inr (.inl f)))) (ht : tys[t0]? = some (cA, .long)) {j : Nat} (hj : j < n) (hn : n < 2 ^ 31) (hw : ws.set q0 (a, .inl (cA, n, .inr (.inl (vp_updL f j x)))) = w1) (hdg : decode cc pc = .ok (.lastore, 1))
    (kk : ∀ (H1 : Heap) (locs1 : List Loc), va_P D vwCl w1 H1 → va_D A w1 → va_S A s.heap H1 locs1 → W p l e R s m args below meth c H1 locs1 cells slots Q (F0 m (pc + 1) ls rest)) : W p l e R s m args below meth c H locs cells slots Q (F0 m pc ls (.long x :: .int (nI j) :: .ref a :: rest)) := by
  refine va_last S.1 S.2.1 hK hP hD hS q0 t0 ha ht (vp_in_nI hj hn) hdg ?_
  rw [nI_clamp (by omega), hw]
  exact kk
/-- booleans on the stack -/
def b2i (b : Bool) : Int32 := if b then 1 else 0
theorem b2i_0 {b : Bool} : b2i b = 0 ↔ b = false := by cases b <;> decide
theorem b2i_nar (b : Bool) : narrow .boolean (.int (b2i b)) = .int (b2i b) := by cases b <;> rfl
theorem kb_eq {b : Bool} {off : Int} {tgt : Nat} (S : CallFix p m c cc nL s args Ts own) (hdg : decode cc pc = .ok (.ifCond .eq off, 3)) (ht : (pc : Int) + off = (tgt : Int))
    (kt : b = false → W p l e R s m args below meth c H locs cells slots Q (F0 m tgt ls rest)) (kf : b = true → W p l e R s m args below meth c H locs cells slots Q (F0 m (pc + 3) ls rest)) : W p l e R s m args below meth c H locs cells slots Q (F0 m pc ls (.int (b2i b) :: rest)) :=
  lv_if_eq S.1 S.2.1 hdg ht (fun h => kt (b2i_0.mp h)) (fun h => kf (by cases b with | false => exact absurd rfl h | true => rfl))
theorem kb_ne {b : Bool} {off : Int} {tgt : Nat} (S : CallFix p m c cc nL s args Ts own) (hdg : decode cc pc = .ok (.ifCond .ne off, 3)) (ht : (pc : Int) + off = (tgt : Int))
    (kt : b = true → W p l e R s m args below meth c H locs cells slots Q (F0 m tgt ls rest)) (kf : b = false → W p l e R s m args below meth c H locs cells slots Q (F0 m (pc + 3) ls rest)) : W p l e R s m args below meth c H locs cells slots Q (F0 m pc ls (.int (b2i b) :: rest)) :=
  lv_if_ne S.1 S.2.1 hdg ht (fun h => kt (by cases b with | false => exact absurd rfl h | true => rfl)) (fun h => kf (b2i_0.mp h))
end KX
/-- a contract's start -/
theorem kmet {l : Launch} {y : MethodName} {cc : ByteArray} {n : Nat} {ret : Option FieldType} {rm : Room} {D : va_G} {tys : List (ClassId × FieldType)} {N : List Cond} {av : List Value} {w0 : va_W} {sz mc ms : Nat} {Qc : Array Value → State → Outcome → State → Prop} {own : String} (hy : plainName y.cls = true) (ho : y.cls = own) (hlen : (lg_sl av).length ≤ n)
    (body : ∀ (p : Program) (e : Env) (s : State) (m : MethodId) (args : Array Value) (below : List Frame) (meth : Method) (c : Code), CallFix p m c cc n s args (kWs y cc n ret) own → meth.sig.returnType = ret → meth.locks = false → va_K D vwCl tys s → kN N s → va_P D vwCl w0 s.heap → va_D (va_A w0 sz) w0 → s.heap.size = sz → (∀ q, s.heap.size ≤ q → va_A w0 sz q) → meth.name = y.name → ∀ ls : Array Slot, lv_has ls n (lv_args 0 av) →
      W p l e rm s m args below meth c s.heap [] 0 0 (MQ below Qc args s mc ms (va_A w0 sz)) (F0 m 0 ls [])) :
    Met l y (kWs y cc n ret) rm (va_Pc av (kP D tys N w0 sz)) Qc mc ms (va_A w0 sz) := by
  refine Met.ofW (cc := cc) (maxL := n) (ret := ret) hy rfl ?_
  intro p e s m args below meth c s₁ B hml hv
  obtain ⟨rfl, hsz, hP, hK, hN, hD⟩ := hv
  have hts := atoms_spec (ws := kWs y cc n ret) B.pre
  have hown : s.vm.findClass own = some m.cls := by rw [← ho]; exact findClass_of_methodNamed B.named
  have hl := lv_entry av (n := n) hlen
  rw [lg_entry_eq]
  exact body p e s m _ below meth c ⟨B.exec, B.bytes, hml, hown, hts⟩ B.returns B.notSynchronized hK hN hP (hD.self (sz := sz)) hsz (fun q h => Or.inr (by rw [← hsz]; exact h)) (name_of_methodNamed B.named B.method).1 _ hl
end
section
/-! THE CLASS'S WORLD: a bank of arrays. σ.1 k j: ints and booleans (bank 0: linkCount, packetCount, time, known.count, inFlight.count), σ.2 k j: longs; cells at a 0 .. a 15; the packets stand in X. -/
abbrev CS : Type := (Nat → Nat → Int32) × (Nat → Nat → Int64)
def sI (k j : Nat) (v : Int32) (σ : CS) : CS := (va_up σ.1 k (upd (σ.1 k) j v), σ.2)
def sJ (k j : Nat) (v : Int64) (σ : CS) : CS := (σ.1, va_up σ.2 k (vp_updL (σ.2 k) j v))
abbrev tyA (cy : Nat → ClassId) : List (ClassId × FieldType) := [(cy 0, .int), (cy 1, .long), (cy 2, .boolean), (cy 3, .object RX0)]
def nestC : List Cond := [Cond.methodLinkNest "FloodingNet" 28 ⟨"FloodingNet$Pieces", "<init>", "(I)V"⟩ "FloodingNet", Cond.fieldLinkNest "FloodingNet" 133 "FloodingNet$Pieces" "number" "[I" "FloodingNet", Cond.fieldLinkNest "FloodingNet" 136 "FloodingNet$Pieces" "born" "[I" "FloodingNet", Cond.fieldLinkNest "FloodingNet" 217 "FloodingNet$Pieces" "costs" "[J" "FloodingNet", Cond.fieldLinkNest "FloodingNet" 146 "FloodingNet$Pieces" "count" "I" "FloodingNet", Cond.methodLinkNest "FloodingNet" 139 ⟨"FloodingNet$Pieces", "costCount", "(I)I"⟩ "FloodingNet", Cond.methodLinkNest "FloodingNet" 143 ⟨"FloodingNet$Pieces", "costFor", "(II)I"⟩ "FloodingNet", Cond.methodLinkNest "FloodingNet" 210 ⟨"FloodingNet$Pieces", "packed", "(II)J"⟩ "FloodingNet", Cond.methodLinkNest "FloodingNet" 202 ⟨"FloodingNet$Pieces", "write", "(IIIJ)V"⟩ "FloodingNet", Cond.methodLinkNest "FloodingNet" 110 ⟨"FloodingNet$Pieces", "clear", "(I)V"⟩ "FloodingNet", Cond.methodLinkNest "FloodingNet" 195 ⟨"FloodingNet$Packet", "isOn", "(II)Z"⟩ "FloodingNet", Cond.methodLinkNest "FloodingNet" 121 ⟨"FloodingNet$Pieces", "clearBornUntil", "(I)V"⟩ "FloodingNet", Cond.methodLinkNest "FloodingNet" 230 ⟨"FloodingNet$Packet", "visit", "(I)V"⟩ "FloodingNet", Cond.methodLinkNest "FloodingNet" 162 ⟨"FloodingNet$Packet", "<init>", "(II)V"⟩ "FloodingNet", Cond.fieldLinkNest "FloodingNet" 233 "FloodingNet$Packet" "goal" "I" "FloodingNet", Cond.fieldLinkNest "FloodingNet" 177 "FloodingNet$Packet" "trace" "[I" "FloodingNet", Cond.fieldLinkNest "FloodingNet" 174 "FloodingNet$Packet" "traceLength" "I" "FloodingNet", Cond.fieldLinkNest "FloodingNet" 171 "FloodingNet$Packet" "life" "I" "FloodingNet", Cond.fieldLinkNest "FloodingNet" 168 "FloodingNet$Packet" "state" "I" "FloodingNet", Cond.fieldLinkNest "FloodingNet" 227 "FloodingNet$Packet" "towards" "I" "FloodingNet", Cond.fieldLinkNest "FloodingNet" 224 "FloodingNet$Packet" "arrival" "I" "FloodingNet"]
theorem nestC_ok : kNok nestC := List.forall_mem_cons.mpr ⟨⟨rfl, fun _ _ h z => va_Nw.warmM h z⟩, List.forall_mem_cons.mpr ⟨⟨rfl, fun _ _ h z => va_Nw.warmF h z⟩, List.forall_mem_cons.mpr ⟨⟨rfl, fun _ _ h z => va_Nw.warmF h z⟩, List.forall_mem_cons.mpr ⟨⟨rfl, fun _ _ h z => va_Nw.warmF h z⟩, List.forall_mem_cons.mpr ⟨⟨rfl, fun _ _ h z => va_Nw.warmF h z⟩, List.forall_mem_cons.mpr ⟨⟨rfl, fun _ _ h z => va_Nw.warmM h z⟩, List.forall_mem_cons.mpr ⟨⟨rfl, fun _ _ h z => va_Nw.warmM h z⟩, List.forall_mem_cons.mpr ⟨⟨rfl, fun _ _ h z => va_Nw.warmM h z⟩, List.forall_mem_cons.mpr ⟨⟨rfl, fun _ _ h z => va_Nw.warmM h z⟩, List.forall_mem_cons.mpr ⟨⟨rfl, fun _ _ h z => va_Nw.warmM h z⟩, List.forall_mem_cons.mpr ⟨⟨rfl, fun _ _ h z => va_Nw.warmM h z⟩, List.forall_mem_cons.mpr ⟨⟨rfl, fun _ _ h z => va_Nw.warmM h z⟩, List.forall_mem_cons.mpr ⟨⟨rfl, fun _ _ h z => va_Nw.warmM h z⟩, List.forall_mem_cons.mpr ⟨⟨rfl, fun _ _ h z => va_Nw.warmM h z⟩, List.forall_mem_cons.mpr ⟨⟨rfl, fun _ _ h z => va_Nw.warmF h z⟩, List.forall_mem_cons.mpr ⟨⟨rfl, fun _ _ h z => va_Nw.warmF h z⟩, List.forall_mem_cons.mpr ⟨⟨rfl, fun _ _ h z => va_Nw.warmF h z⟩, List.forall_mem_cons.mpr ⟨⟨rfl, fun _ _ h z => va_Nw.warmF h z⟩, List.forall_mem_cons.mpr ⟨⟨rfl, fun _ _ h z => va_Nw.warmF h z⟩, List.forall_mem_cons.mpr ⟨⟨rfl, fun _ _ h z => va_Nw.warmF h z⟩, List.forall_mem_cons.mpr ⟨⟨rfl, fun _ _ h z => va_Nw.warmF h z⟩, fun _ h => absurd h List.not_mem_nil⟩⟩⟩⟩⟩⟩⟩⟩⟩⟩⟩⟩⟩⟩⟩⟩⟩⟩⟩⟩⟩
theorem nc_0 : Cond.methodLinkNest "FloodingNet" 28 ⟨"FloodingNet$Pieces", "<init>", "(I)V"⟩ "FloodingNet" ∈ nestC := List.mem_of_getElem? (i := 0) rfl
theorem nc_1 : Cond.fieldLinkNest "FloodingNet" 133 "FloodingNet$Pieces" "number" "[I" "FloodingNet" ∈ nestC := List.mem_of_getElem? (i := 1) rfl
theorem nc_2 : Cond.fieldLinkNest "FloodingNet" 136 "FloodingNet$Pieces" "born" "[I" "FloodingNet" ∈ nestC := List.mem_of_getElem? (i := 2) rfl
theorem nc_3 : Cond.fieldLinkNest "FloodingNet" 217 "FloodingNet$Pieces" "costs" "[J" "FloodingNet" ∈ nestC := List.mem_of_getElem? (i := 3) rfl
theorem nc_4 : Cond.fieldLinkNest "FloodingNet" 146 "FloodingNet$Pieces" "count" "I" "FloodingNet" ∈ nestC := List.mem_of_getElem? (i := 4) rfl
theorem nc_5 : Cond.methodLinkNest "FloodingNet" 139 ⟨"FloodingNet$Pieces", "costCount", "(I)I"⟩ "FloodingNet" ∈ nestC := List.mem_of_getElem? (i := 5) rfl
theorem nc_6 : Cond.methodLinkNest "FloodingNet" 143 ⟨"FloodingNet$Pieces", "costFor", "(II)I"⟩ "FloodingNet" ∈ nestC := List.mem_of_getElem? (i := 6) rfl
theorem nc_7 : Cond.methodLinkNest "FloodingNet" 210 ⟨"FloodingNet$Pieces", "packed", "(II)J"⟩ "FloodingNet" ∈ nestC := List.mem_of_getElem? (i := 7) rfl
theorem nc_8 : Cond.methodLinkNest "FloodingNet" 202 ⟨"FloodingNet$Pieces", "write", "(IIIJ)V"⟩ "FloodingNet" ∈ nestC := List.mem_of_getElem? (i := 8) rfl
theorem nc_9 : Cond.methodLinkNest "FloodingNet" 110 ⟨"FloodingNet$Pieces", "clear", "(I)V"⟩ "FloodingNet" ∈ nestC := List.mem_of_getElem? (i := 9) rfl
theorem nc_10 : Cond.methodLinkNest "FloodingNet" 195 ⟨"FloodingNet$Packet", "isOn", "(II)Z"⟩ "FloodingNet" ∈ nestC := List.mem_of_getElem? (i := 10) rfl
theorem nc_11 : Cond.methodLinkNest "FloodingNet" 121 ⟨"FloodingNet$Pieces", "clearBornUntil", "(I)V"⟩ "FloodingNet" ∈ nestC := List.mem_of_getElem? (i := 11) rfl
theorem nc_12 : Cond.methodLinkNest "FloodingNet" 230 ⟨"FloodingNet$Packet", "visit", "(I)V"⟩ "FloodingNet" ∈ nestC := List.mem_of_getElem? (i := 12) rfl
theorem nc_13 : Cond.methodLinkNest "FloodingNet" 162 ⟨"FloodingNet$Packet", "<init>", "(II)V"⟩ "FloodingNet" ∈ nestC := List.mem_of_getElem? (i := 13) rfl
theorem nc_14 : Cond.fieldLinkNest "FloodingNet" 233 "FloodingNet$Packet" "goal" "I" "FloodingNet" ∈ nestC := List.mem_of_getElem? (i := 14) rfl
theorem nc_15 : Cond.fieldLinkNest "FloodingNet" 177 "FloodingNet$Packet" "trace" "[I" "FloodingNet" ∈ nestC := List.mem_of_getElem? (i := 15) rfl
theorem nc_16 : Cond.fieldLinkNest "FloodingNet" 174 "FloodingNet$Packet" "traceLength" "I" "FloodingNet" ∈ nestC := List.mem_of_getElem? (i := 16) rfl
theorem nc_17 : Cond.fieldLinkNest "FloodingNet" 171 "FloodingNet$Packet" "life" "I" "FloodingNet" ∈ nestC := List.mem_of_getElem? (i := 17) rfl
theorem nc_18 : Cond.fieldLinkNest "FloodingNet" 168 "FloodingNet$Packet" "state" "I" "FloodingNet" ∈ nestC := List.mem_of_getElem? (i := 18) rfl
theorem nc_19 : Cond.fieldLinkNest "FloodingNet" 227 "FloodingNet$Packet" "towards" "I" "FloodingNet" ∈ nestC := List.mem_of_getElem? (i := 19) rfl
theorem nc_20 : Cond.fieldLinkNest "FloodingNet" 224 "FloodingNet$Packet" "arrival" "I" "FloodingNet" ∈ nestC := List.mem_of_getElem? (i := 20) rfl
def cB (cy : Nat → ClassId) (a : Nat → Nat) (σ : CS) : va_W := [(a 0, .inr (2, [.ref (a 1), .ref (a 2), .ref (a 3), .ref (a 4), .ref (a 5), .int (σ.1 0 0), .ref (a 6), .ref (a 7), .ref (a 14), .ref (a 16), .int (σ.1 0 1), .ref (a 15), .int (σ.1 0 2)])),
  (a 1, .inl (cy 2, 8, .inl (σ.1 1))),
  (a 2, .inl (cy 0, 8, .inl (σ.1 2))),
  (a 3, .inl (cy 0, 64, .inl (σ.1 3))),
  (a 4, .inl (cy 0, 64, .inl (σ.1 4))),
  (a 5, .inl (cy 2, 64, .inl (σ.1 5))),
  (a 6, .inr (1, [.ref (a 8), .ref (a 9), .ref (a 10), .int (σ.1 0 3)])),
  (a 7, .inr (1, [.ref (a 11), .ref (a 12), .ref (a 13), .int (σ.1 0 4)])),
  (a 8, .inl (cy 0, 64, .inl (σ.1 6))),
  (a 9, .inl (cy 0, 64, .inl (σ.1 7))),
  (a 10, .inl (cy 1, 64, .inr (.inl (σ.2 0)))),
  (a 11, .inl (cy 0, 512, .inl (σ.1 8))),
  (a 12, .inl (cy 0, 512, .inl (σ.1 9))),
  (a 13, .inl (cy 1, 512, .inr (.inl (σ.2 1)))),
  (a 14, .inl (cy 0, 512, .inl (σ.1 10))),
  (a 15, .inl (cy 0, 8, .inl (σ.1 11)))]
section CW
variable {p : Program} {l : Launch} {e : Env} {R : Room} {s : State} {m : MethodId} {args : Array Value} {below : List Frame} {meth : Method} {c : Code} {H : Heap} {locs : List Loc} {cells slots : Nat} {Q : State → Prop}
variable {cc : ByteArray} {pc nL : Nat} {ls : Array Slot} {rest : List Value} {D : va_G} {A : Nat → Prop} {w0 : Cond} {X : va_W} {cy : Nat → ClassId} {a : Nat → Nat}
variable {σ : CS}
theorem cw_0 : (X ++ cB cy a σ)[X.length + 0]? = some (a 0, .inr (2, [.ref (a 1), .ref (a 2), .ref (a 3), .ref (a 4), .ref (a 5), .int (σ.1 0 0), .ref (a 6), .ref (a 7), .ref (a 14), .ref (a 16), .int (σ.1 0 1), .ref (a 15), .int (σ.1 0 2)])) := by rw [List.getElem?_append_right (Nat.le_add_right _ _), Nat.add_sub_cancel_left]; rfl
theorem cw_1 : (X ++ cB cy a σ)[X.length + 1]? = some (a 1, .inl (cy 2, 8, .inl (σ.1 1))) := by rw [List.getElem?_append_right (Nat.le_add_right _ _), Nat.add_sub_cancel_left]; rfl
theorem cw_2 : (X ++ cB cy a σ)[X.length + 2]? = some (a 2, .inl (cy 0, 8, .inl (σ.1 2))) := by rw [List.getElem?_append_right (Nat.le_add_right _ _), Nat.add_sub_cancel_left]; rfl
theorem cw_3 : (X ++ cB cy a σ)[X.length + 3]? = some (a 3, .inl (cy 0, 64, .inl (σ.1 3))) := by rw [List.getElem?_append_right (Nat.le_add_right _ _), Nat.add_sub_cancel_left]; rfl
theorem cw_4 : (X ++ cB cy a σ)[X.length + 4]? = some (a 4, .inl (cy 0, 64, .inl (σ.1 4))) := by rw [List.getElem?_append_right (Nat.le_add_right _ _), Nat.add_sub_cancel_left]; rfl
theorem cw_5 : (X ++ cB cy a σ)[X.length + 5]? = some (a 5, .inl (cy 2, 64, .inl (σ.1 5))) := by rw [List.getElem?_append_right (Nat.le_add_right _ _), Nat.add_sub_cancel_left]; rfl
theorem cw_6 : (X ++ cB cy a σ)[X.length + 6]? = some (a 6, .inr (1, [.ref (a 8), .ref (a 9), .ref (a 10), .int (σ.1 0 3)])) := by rw [List.getElem?_append_right (Nat.le_add_right _ _), Nat.add_sub_cancel_left]; rfl
theorem cw_7 : (X ++ cB cy a σ)[X.length + 7]? = some (a 7, .inr (1, [.ref (a 11), .ref (a 12), .ref (a 13), .int (σ.1 0 4)])) := by rw [List.getElem?_append_right (Nat.le_add_right _ _), Nat.add_sub_cancel_left]; rfl
theorem cw_8 : (X ++ cB cy a σ)[X.length + 8]? = some (a 8, .inl (cy 0, 64, .inl (σ.1 6))) := by rw [List.getElem?_append_right (Nat.le_add_right _ _), Nat.add_sub_cancel_left]; rfl
theorem cw_9 : (X ++ cB cy a σ)[X.length + 9]? = some (a 9, .inl (cy 0, 64, .inl (σ.1 7))) := by rw [List.getElem?_append_right (Nat.le_add_right _ _), Nat.add_sub_cancel_left]; rfl
theorem cw_10 : (X ++ cB cy a σ)[X.length + 10]? = some (a 10, .inl (cy 1, 64, .inr (.inl (σ.2 0)))) := by rw [List.getElem?_append_right (Nat.le_add_right _ _), Nat.add_sub_cancel_left]; rfl
theorem cw_11 : (X ++ cB cy a σ)[X.length + 11]? = some (a 11, .inl (cy 0, 512, .inl (σ.1 8))) := by rw [List.getElem?_append_right (Nat.le_add_right _ _), Nat.add_sub_cancel_left]; rfl
theorem cw_12 : (X ++ cB cy a σ)[X.length + 12]? = some (a 12, .inl (cy 0, 512, .inl (σ.1 9))) := by rw [List.getElem?_append_right (Nat.le_add_right _ _), Nat.add_sub_cancel_left]; rfl
theorem cw_13 : (X ++ cB cy a σ)[X.length + 13]? = some (a 13, .inl (cy 1, 512, .inr (.inl (σ.2 1)))) := by rw [List.getElem?_append_right (Nat.le_add_right _ _), Nat.add_sub_cancel_left]; rfl
theorem cw_14 : (X ++ cB cy a σ)[X.length + 14]? = some (a 14, .inl (cy 0, 512, .inl (σ.1 10))) := by rw [List.getElem?_append_right (Nat.le_add_right _ _), Nat.add_sub_cancel_left]; rfl
theorem cw_15 : (X ++ cB cy a σ)[X.length + 15]? = some (a 15, .inl (cy 0, 8, .inl (σ.1 11))) := by rw [List.getElem?_append_right (Nat.le_add_right _ _), Nat.add_sub_cancel_left]; rfl
theorem cz_0_5 {v : Int32} : (X ++ cB cy a σ).set (X.length + 0) (a 0, .inr (2, [.ref (a 1), .ref (a 2), .ref (a 3), .ref (a 4), .ref (a 5), .int v, .ref (a 6), .ref (a 7), .ref (a 14), .ref (a 16), .int (σ.1 0 1), .ref (a 15), .int (σ.1 0 2)])) = X ++ cB cy a (sI 0 0 v σ) := by rw [List.set_append_right _ _ (Nat.le_add_right _ _), Nat.add_sub_cancel_left]; rfl
theorem cz_0_10 {v : Int32} : (X ++ cB cy a σ).set (X.length + 0) (a 0, .inr (2, [.ref (a 1), .ref (a 2), .ref (a 3), .ref (a 4), .ref (a 5), .int (σ.1 0 0), .ref (a 6), .ref (a 7), .ref (a 14), .ref (a 16), .int v, .ref (a 15), .int (σ.1 0 2)])) = X ++ cB cy a (sI 0 1 v σ) := by rw [List.set_append_right _ _ (Nat.le_add_right _ _), Nat.add_sub_cancel_left]; rfl
theorem cz_0_12 {v : Int32} : (X ++ cB cy a σ).set (X.length + 0) (a 0, .inr (2, [.ref (a 1), .ref (a 2), .ref (a 3), .ref (a 4), .ref (a 5), .int (σ.1 0 0), .ref (a 6), .ref (a 7), .ref (a 14), .ref (a 16), .int (σ.1 0 1), .ref (a 15), .int v])) = X ++ cB cy a (sI 0 2 v σ) := by rw [List.set_append_right _ _ (Nat.le_add_right _ _), Nat.add_sub_cancel_left]; rfl
theorem cz_1 {j : Nat} {v : Int32} : (X ++ cB cy a σ).set (X.length + 1) (a 1, .inl (cy 2, 8, .inl (upd (σ.1 1) j v))) = X ++ cB cy a (sI 1 j v σ) := by rw [List.set_append_right _ _ (Nat.le_add_right _ _), Nat.add_sub_cancel_left]; rfl
theorem cz_2 {j : Nat} {v : Int32} : (X ++ cB cy a σ).set (X.length + 2) (a 2, .inl (cy 0, 8, .inl (upd (σ.1 2) j v))) = X ++ cB cy a (sI 2 j v σ) := by rw [List.set_append_right _ _ (Nat.le_add_right _ _), Nat.add_sub_cancel_left]; rfl
theorem cz_3 {j : Nat} {v : Int32} : (X ++ cB cy a σ).set (X.length + 3) (a 3, .inl (cy 0, 64, .inl (upd (σ.1 3) j v))) = X ++ cB cy a (sI 3 j v σ) := by rw [List.set_append_right _ _ (Nat.le_add_right _ _), Nat.add_sub_cancel_left]; rfl
theorem cz_4 {j : Nat} {v : Int32} : (X ++ cB cy a σ).set (X.length + 4) (a 4, .inl (cy 0, 64, .inl (upd (σ.1 4) j v))) = X ++ cB cy a (sI 4 j v σ) := by rw [List.set_append_right _ _ (Nat.le_add_right _ _), Nat.add_sub_cancel_left]; rfl
theorem cz_5 {j : Nat} {v : Int32} : (X ++ cB cy a σ).set (X.length + 5) (a 5, .inl (cy 2, 64, .inl (upd (σ.1 5) j v))) = X ++ cB cy a (sI 5 j v σ) := by rw [List.set_append_right _ _ (Nat.le_add_right _ _), Nat.add_sub_cancel_left]; rfl
theorem cz_6_3 {v : Int32} : (X ++ cB cy a σ).set (X.length + 6) (a 6, .inr (1, [.ref (a 8), .ref (a 9), .ref (a 10), .int v])) = X ++ cB cy a (sI 0 3 v σ) := by rw [List.set_append_right _ _ (Nat.le_add_right _ _), Nat.add_sub_cancel_left]; rfl
theorem cz_7_3 {v : Int32} : (X ++ cB cy a σ).set (X.length + 7) (a 7, .inr (1, [.ref (a 11), .ref (a 12), .ref (a 13), .int v])) = X ++ cB cy a (sI 0 4 v σ) := by rw [List.set_append_right _ _ (Nat.le_add_right _ _), Nat.add_sub_cancel_left]; rfl
theorem cz_8 {j : Nat} {v : Int32} : (X ++ cB cy a σ).set (X.length + 8) (a 8, .inl (cy 0, 64, .inl (upd (σ.1 6) j v))) = X ++ cB cy a (sI 6 j v σ) := by rw [List.set_append_right _ _ (Nat.le_add_right _ _), Nat.add_sub_cancel_left]; rfl
theorem cz_9 {j : Nat} {v : Int32} : (X ++ cB cy a σ).set (X.length + 9) (a 9, .inl (cy 0, 64, .inl (upd (σ.1 7) j v))) = X ++ cB cy a (sI 7 j v σ) := by rw [List.set_append_right _ _ (Nat.le_add_right _ _), Nat.add_sub_cancel_left]; rfl
theorem cz_10 {j : Nat} {v : Int64} : (X ++ cB cy a σ).set (X.length + 10) (a 10, .inl (cy 1, 64, .inr (.inl (vp_updL (σ.2 0) j v)))) = X ++ cB cy a (sJ 0 j v σ) := by rw [List.set_append_right _ _ (Nat.le_add_right _ _), Nat.add_sub_cancel_left]; rfl
theorem cz_11 {j : Nat} {v : Int32} : (X ++ cB cy a σ).set (X.length + 11) (a 11, .inl (cy 0, 512, .inl (upd (σ.1 8) j v))) = X ++ cB cy a (sI 8 j v σ) := by rw [List.set_append_right _ _ (Nat.le_add_right _ _), Nat.add_sub_cancel_left]; rfl
theorem cz_12 {j : Nat} {v : Int32} : (X ++ cB cy a σ).set (X.length + 12) (a 12, .inl (cy 0, 512, .inl (upd (σ.1 9) j v))) = X ++ cB cy a (sI 9 j v σ) := by rw [List.set_append_right _ _ (Nat.le_add_right _ _), Nat.add_sub_cancel_left]; rfl
theorem cz_13 {j : Nat} {v : Int64} : (X ++ cB cy a σ).set (X.length + 13) (a 13, .inl (cy 1, 512, .inr (.inl (vp_updL (σ.2 1) j v)))) = X ++ cB cy a (sJ 1 j v σ) := by rw [List.set_append_right _ _ (Nat.le_add_right _ _), Nat.add_sub_cancel_left]; rfl
theorem cz_14 {j : Nat} {v : Int32} : (X ++ cB cy a σ).set (X.length + 14) (a 14, .inl (cy 0, 512, .inl (upd (σ.1 10) j v))) = X ++ cB cy a (sI 10 j v σ) := by rw [List.set_append_right _ _ (Nat.le_add_right _ _), Nat.add_sub_cancel_left]; rfl
theorem cz_15 {j : Nat} {v : Int32} : (X ++ cB cy a σ).set (X.length + 15) (a 15, .inl (cy 0, 8, .inl (upd (σ.1 11) j v))) = X ++ cB cy a (sI 11 j v σ) := by rw [List.set_append_right _ _ (Nat.le_add_right _ _), Nat.add_sub_cancel_left]; rfl
theorem cf_net_there (S : CallFix p m c cc nL s args (w0 :: gw) RX2) (hK : va_K D vwCl (tyA cy) s) (hP : va_P D vwCl (X ++ cB cy a σ) H) (hdg : decode cc pc = .ok (.getfield 9, 3)) (kk : W p l e R s m args below meth c H locs cells slots Q (F0 m (pc + 3) ls (.ref (a 1) :: rest))) : W p l e R s m args below meth c H locs cells slots Q (F0 m pc ls (.ref (a 0) :: rest)) :=
  va_get S.1 S.2.1 S.2.2.2.2 (fun w h => List.mem_cons_of_mem _ (inX2 w h)) S.2.2.2.1 hK hP (X.length + 0) cw_0 rfl 0 (by decide) (S.2.2.2.2 _ (List.mem_cons_of_mem _ wm_94)) (fun _ h => h) rfl hdg kk
theorem cf_net_latestNumber (S : CallFix p m c cc nL s args (w0 :: gw) RX2) (hK : va_K D vwCl (tyA cy) s) (hP : va_P D vwCl (X ++ cB cy a σ) H) (hdg : decode cc pc = .ok (.getfield 13, 3)) (kk : W p l e R s m args below meth c H locs cells slots Q (F0 m (pc + 3) ls (.ref (a 2) :: rest))) : W p l e R s m args below meth c H locs cells slots Q (F0 m pc ls (.ref (a 0) :: rest)) :=
  va_get S.1 S.2.1 S.2.2.2.2 (fun w h => List.mem_cons_of_mem _ (inX2 w h)) S.2.2.2.1 hK hP (X.length + 0) cw_0 rfl 1 (by decide) (S.2.2.2.2 _ (List.mem_cons_of_mem _ wm_95)) (fun _ h => h) rfl hdg kk
theorem cf_net_linkCost (S : CallFix p m c cc nL s args (w0 :: gw) RX2) (hK : va_K D vwCl (tyA cy) s) (hP : va_P D vwCl (X ++ cB cy a σ) H) (hdg : decode cc pc = .ok (.getfield 17, 3)) (kk : W p l e R s m args below meth c H locs cells slots Q (F0 m (pc + 3) ls (.ref (a 3) :: rest))) : W p l e R s m args below meth c H locs cells slots Q (F0 m pc ls (.ref (a 0) :: rest)) :=
  va_get S.1 S.2.1 S.2.2.2.2 (fun w h => List.mem_cons_of_mem _ (inX2 w h)) S.2.2.2.1 hK hP (X.length + 0) cw_0 rfl 2 (by decide) (S.2.2.2.2 _ (List.mem_cons_of_mem _ wm_96)) (fun _ h => h) rfl hdg kk
theorem cf_net_linkDelay (S : CallFix p m c cc nL s args (w0 :: gw) RX2) (hK : va_K D vwCl (tyA cy) s) (hP : va_P D vwCl (X ++ cB cy a σ) H) (hdg : decode cc pc = .ok (.getfield 20, 3)) (kk : W p l e R s m args below meth c H locs cells slots Q (F0 m (pc + 3) ls (.ref (a 4) :: rest))) : W p l e R s m args below meth c H locs cells slots Q (F0 m pc ls (.ref (a 0) :: rest)) :=
  va_get S.1 S.2.1 S.2.2.2.2 (fun w h => List.mem_cons_of_mem _ (inX2 w h)) S.2.2.2.1 hK hP (X.length + 0) cw_0 rfl 3 (by decide) (S.2.2.2.2 _ (List.mem_cons_of_mem _ wm_97)) (fun _ h => h) rfl hdg kk
theorem cf_net_linkUp (S : CallFix p m c cc nL s args (w0 :: gw) RX2) (hK : va_K D vwCl (tyA cy) s) (hP : va_P D vwCl (X ++ cB cy a σ) H) (hdg : decode cc pc = .ok (.getfield 23, 3)) (kk : W p l e R s m args below meth c H locs cells slots Q (F0 m (pc + 3) ls (.ref (a 5) :: rest))) : W p l e R s m args below meth c H locs cells slots Q (F0 m pc ls (.ref (a 0) :: rest)) :=
  va_get S.1 S.2.1 S.2.2.2.2 (fun w h => List.mem_cons_of_mem _ (inX2 w h)) S.2.2.2.1 hK hP (X.length + 0) cw_0 rfl 4 (by decide) (S.2.2.2.2 _ (List.mem_cons_of_mem _ wm_98)) (fun _ h => h) rfl hdg kk
theorem cf_net_linkCount (S : CallFix p m c cc nL s args (w0 :: gw) RX2) (hK : va_K D vwCl (tyA cy) s) (hP : va_P D vwCl (X ++ cB cy a σ) H) (hdg : decode cc pc = .ok (.getfield 67, 3)) (kk : W p l e R s m args below meth c H locs cells slots Q (F0 m (pc + 3) ls (.int (σ.1 0 0) :: rest))) : W p l e R s m args below meth c H locs cells slots Q (F0 m pc ls (.ref (a 0) :: rest)) :=
  va_get S.1 S.2.1 S.2.2.2.2 (fun w h => List.mem_cons_of_mem _ (inX2 w h)) S.2.2.2.1 hK hP (X.length + 0) cw_0 rfl 5 (by decide) (S.2.2.2.2 _ (List.mem_cons_of_mem _ wm_99)) (fun _ h => h) rfl hdg kk
theorem cp_net_linkCount {v : Int32} (S : CallFix p m c cc nL s args (w0 :: gw) RX2) (hK : va_K D vwCl (tyA cy) s) (hP : va_P D vwCl (X ++ cB cy a σ) H) (hD : va_D A (X ++ cB cy a σ)) (hS : va_S A s.heap H locs) (hdg : decode cc pc = .ok (.putfield 67, 3)) (kk : ∀ (H1 : Heap) (locs1 : List Loc), va_P D vwCl (X ++ cB cy a (sI 0 0 v σ)) H1 → va_D A (X ++ cB cy a (sI 0 0 v σ)) → va_S A s.heap H1 locs1 → W p l e R s m args below meth c H1 locs1 cells slots Q (F0 m (pc + 3) ls rest)) : W p l e R s m args below meth c H locs cells slots Q (F0 m pc ls (.int v :: .ref (a 0) :: rest)) :=
  va_put (ty := .int) S.1 S.2.1 S.2.2.2.2 (fun w h => List.mem_cons_of_mem _ (inX2 w h)) tyX2 tyX2_ok nmX2 S.2.2.2.1 hK hP hD hS (X.length + 0) cw_0 rfl 5 (by decide) (S.2.2.2.2 _ (List.mem_cons_of_mem _ wm_99)) (fun _ h => h) rfl (by decide +kernel) rfl rfl (Nat.le_of_ble_eq_true rfl) hdg (fun H1 locs1 hP1 hD1 hS1 => kk H1 locs1 (by rw [← cz_0_5]; exact hP1) (by rw [← cz_0_5]; exact hD1) hS1)
theorem cf_net_known (S : CallFix p m c cc nL s args (w0 :: gw) RX2) (hK : va_K D vwCl (tyA cy) s) (hP : va_P D vwCl (X ++ cB cy a σ) H) (hdg : decode cc pc = .ok (.getfield 31, 3)) (kk : W p l e R s m args below meth c H locs cells slots Q (F0 m (pc + 3) ls (.ref (a 6) :: rest))) : W p l e R s m args below meth c H locs cells slots Q (F0 m pc ls (.ref (a 0) :: rest)) :=
  va_get S.1 S.2.1 S.2.2.2.2 (fun w h => List.mem_cons_of_mem _ (inX2 w h)) S.2.2.2.1 hK hP (X.length + 0) cw_0 rfl 6 (by decide) (S.2.2.2.2 _ (List.mem_cons_of_mem _ wm_100)) (fun _ h => h) rfl hdg kk
theorem cf_net_inFlight (S : CallFix p m c cc nL s args (w0 :: gw) RX2) (hK : va_K D vwCl (tyA cy) s) (hP : va_P D vwCl (X ++ cB cy a σ) H) (hdg : decode cc pc = .ok (.getfield 35, 3)) (kk : W p l e R s m args below meth c H locs cells slots Q (F0 m (pc + 3) ls (.ref (a 7) :: rest))) : W p l e R s m args below meth c H locs cells slots Q (F0 m pc ls (.ref (a 0) :: rest)) :=
  va_get S.1 S.2.1 S.2.2.2.2 (fun w h => List.mem_cons_of_mem _ (inX2 w h)) S.2.2.2.1 hK hP (X.length + 0) cw_0 rfl 7 (by decide) (S.2.2.2.2 _ (List.mem_cons_of_mem _ wm_101)) (fun _ h => h) rfl hdg kk
theorem cf_net_newsArrival (S : CallFix p m c cc nL s args (w0 :: gw) RX2) (hK : va_K D vwCl (tyA cy) s) (hP : va_P D vwCl (X ++ cB cy a σ) H) (hdg : decode cc pc = .ok (.getfield 38, 3)) (kk : W p l e R s m args below meth c H locs cells slots Q (F0 m (pc + 3) ls (.ref (a 14) :: rest))) : W p l e R s m args below meth c H locs cells slots Q (F0 m pc ls (.ref (a 0) :: rest)) :=
  va_get S.1 S.2.1 S.2.2.2.2 (fun w h => List.mem_cons_of_mem _ (inX2 w h)) S.2.2.2.1 hK hP (X.length + 0) cw_0 rfl 8 (by decide) (S.2.2.2.2 _ (List.mem_cons_of_mem _ wm_102)) (fun _ h => h) rfl hdg kk
theorem cf_net_packets (S : CallFix p m c cc nL s args (w0 :: gw) RX2) (hK : va_K D vwCl (tyA cy) s) (hP : va_P D vwCl (X ++ cB cy a σ) H) (hdg : decode cc pc = .ok (.getfield 43, 3)) (kk : W p l e R s m args below meth c H locs cells slots Q (F0 m (pc + 3) ls (.ref (a 16) :: rest))) : W p l e R s m args below meth c H locs cells slots Q (F0 m pc ls (.ref (a 0) :: rest)) :=
  va_get S.1 S.2.1 S.2.2.2.2 (fun w h => List.mem_cons_of_mem _ (inX2 w h)) S.2.2.2.1 hK hP (X.length + 0) cw_0 rfl 9 (by decide) (S.2.2.2.2 _ (List.mem_cons_of_mem _ wm_103)) (fun _ h => h) rfl hdg kk
theorem cf_net_packetCount (S : CallFix p m c cc nL s args (w0 :: gw) RX2) (hK : va_K D vwCl (tyA cy) s) (hP : va_P D vwCl (X ++ cB cy a σ) H) (hdg : decode cc pc = .ok (.getfield 157, 3)) (kk : W p l e R s m args below meth c H locs cells slots Q (F0 m (pc + 3) ls (.int (σ.1 0 1) :: rest))) : W p l e R s m args below meth c H locs cells slots Q (F0 m pc ls (.ref (a 0) :: rest)) :=
  va_get S.1 S.2.1 S.2.2.2.2 (fun w h => List.mem_cons_of_mem _ (inX2 w h)) S.2.2.2.1 hK hP (X.length + 0) cw_0 rfl 10 (by decide) (S.2.2.2.2 _ (List.mem_cons_of_mem _ wm_104)) (fun _ h => h) rfl hdg kk
theorem cp_net_packetCount {v : Int32} (S : CallFix p m c cc nL s args (w0 :: gw) RX2) (hK : va_K D vwCl (tyA cy) s) (hP : va_P D vwCl (X ++ cB cy a σ) H) (hD : va_D A (X ++ cB cy a σ)) (hS : va_S A s.heap H locs) (hdg : decode cc pc = .ok (.putfield 157, 3)) (kk : ∀ (H1 : Heap) (locs1 : List Loc), va_P D vwCl (X ++ cB cy a (sI 0 1 v σ)) H1 → va_D A (X ++ cB cy a (sI 0 1 v σ)) → va_S A s.heap H1 locs1 → W p l e R s m args below meth c H1 locs1 cells slots Q (F0 m (pc + 3) ls rest)) : W p l e R s m args below meth c H locs cells slots Q (F0 m pc ls (.int v :: .ref (a 0) :: rest)) :=
  va_put (ty := .int) S.1 S.2.1 S.2.2.2.2 (fun w h => List.mem_cons_of_mem _ (inX2 w h)) tyX2 tyX2_ok nmX2 S.2.2.2.1 hK hP hD hS (X.length + 0) cw_0 rfl 10 (by decide) (S.2.2.2.2 _ (List.mem_cons_of_mem _ wm_104)) (fun _ h => h) rfl (by decide +kernel) rfl rfl (Nat.le_of_ble_eq_true rfl) hdg (fun H1 locs1 hP1 hD1 hS1 => kk H1 locs1 (by rw [← cz_0_10]; exact hP1) (by rw [← cz_0_10]; exact hD1) hS1)
theorem cf_net_costToGoal (S : CallFix p m c cc nL s args (w0 :: gw) RX2) (hK : va_K D vwCl (tyA cy) s) (hP : va_P D vwCl (X ++ cB cy a σ) H) (hdg : decode cc pc = .ok (.getfield 47, 3)) (kk : W p l e R s m args below meth c H locs cells slots Q (F0 m (pc + 3) ls (.ref (a 15) :: rest))) : W p l e R s m args below meth c H locs cells slots Q (F0 m pc ls (.ref (a 0) :: rest)) :=
  va_get S.1 S.2.1 S.2.2.2.2 (fun w h => List.mem_cons_of_mem _ (inX2 w h)) S.2.2.2.1 hK hP (X.length + 0) cw_0 rfl 11 (by decide) (S.2.2.2.2 _ (List.mem_cons_of_mem _ wm_105)) (fun _ h => h) rfl hdg kk
theorem cf_net_time (S : CallFix p m c cc nL s args (w0 :: gw) RX2) (hK : va_K D vwCl (tyA cy) s) (hP : va_P D vwCl (X ++ cB cy a σ) H) (hdg : decode cc pc = .ok (.getfield 118, 3)) (kk : W p l e R s m args below meth c H locs cells slots Q (F0 m (pc + 3) ls (.int (σ.1 0 2) :: rest))) : W p l e R s m args below meth c H locs cells slots Q (F0 m pc ls (.ref (a 0) :: rest)) :=
  va_get S.1 S.2.1 S.2.2.2.2 (fun w h => List.mem_cons_of_mem _ (inX2 w h)) S.2.2.2.1 hK hP (X.length + 0) cw_0 rfl 12 (by decide) (S.2.2.2.2 _ (List.mem_cons_of_mem _ wm_106)) (fun _ h => h) rfl hdg kk
theorem cp_net_time {v : Int32} (S : CallFix p m c cc nL s args (w0 :: gw) RX2) (hK : va_K D vwCl (tyA cy) s) (hP : va_P D vwCl (X ++ cB cy a σ) H) (hD : va_D A (X ++ cB cy a σ)) (hS : va_S A s.heap H locs) (hdg : decode cc pc = .ok (.putfield 118, 3)) (kk : ∀ (H1 : Heap) (locs1 : List Loc), va_P D vwCl (X ++ cB cy a (sI 0 2 v σ)) H1 → va_D A (X ++ cB cy a (sI 0 2 v σ)) → va_S A s.heap H1 locs1 → W p l e R s m args below meth c H1 locs1 cells slots Q (F0 m (pc + 3) ls rest)) : W p l e R s m args below meth c H locs cells slots Q (F0 m pc ls (.int v :: .ref (a 0) :: rest)) :=
  va_put (ty := .int) S.1 S.2.1 S.2.2.2.2 (fun w h => List.mem_cons_of_mem _ (inX2 w h)) tyX2 tyX2_ok nmX2 S.2.2.2.1 hK hP hD hS (X.length + 0) cw_0 rfl 12 (by decide) (S.2.2.2.2 _ (List.mem_cons_of_mem _ wm_106)) (fun _ h => h) rfl (by decide +kernel) rfl rfl (Nat.le_of_ble_eq_true rfl) hdg (fun H1 locs1 hP1 hD1 hS1 => kk H1 locs1 (by rw [← cz_0_12]; exact hP1) (by rw [← cz_0_12]; exact hD1) hS1)
theorem cf_known_number (S : CallFix p m c cc nL s args (w0 :: gw) RX1) (hK : va_K D vwCl (tyA cy) s) (hP : va_P D vwCl (X ++ cB cy a σ) H) (hdg : decode cc pc = .ok (.getfield 9, 3)) (kk : W p l e R s m args below meth c H locs cells slots Q (F0 m (pc + 3) ls (.ref (a 8) :: rest))) : W p l e R s m args below meth c H locs cells slots Q (F0 m pc ls (.ref (a 6) :: rest)) :=
  va_get S.1 S.2.1 S.2.2.2.2 (fun w h => List.mem_cons_of_mem _ (inX1 w h)) S.2.2.2.1 hK hP (X.length + 6) cw_6 rfl 0 (by decide) (S.2.2.2.2 _ (List.mem_cons_of_mem _ wm_72)) (fun _ h => h) rfl hdg kk
theorem cf_known_born (S : CallFix p m c cc nL s args (w0 :: gw) RX1) (hK : va_K D vwCl (tyA cy) s) (hP : va_P D vwCl (X ++ cB cy a σ) H) (hdg : decode cc pc = .ok (.getfield 15, 3)) (kk : W p l e R s m args below meth c H locs cells slots Q (F0 m (pc + 3) ls (.ref (a 9) :: rest))) : W p l e R s m args below meth c H locs cells slots Q (F0 m pc ls (.ref (a 6) :: rest)) :=
  va_get S.1 S.2.1 S.2.2.2.2 (fun w h => List.mem_cons_of_mem _ (inX1 w h)) S.2.2.2.1 hK hP (X.length + 6) cw_6 rfl 1 (by decide) (S.2.2.2.2 _ (List.mem_cons_of_mem _ wm_74)) (fun _ h => h) rfl hdg kk
theorem cf_known_costs (S : CallFix p m c cc nL s args (w0 :: gw) RX1) (hK : va_K D vwCl (tyA cy) s) (hP : va_P D vwCl (X ++ cB cy a σ) H) (hdg : decode cc pc = .ok (.getfield 18, 3)) (kk : W p l e R s m args below meth c H locs cells slots Q (F0 m (pc + 3) ls (.ref (a 10) :: rest))) : W p l e R s m args below meth c H locs cells slots Q (F0 m pc ls (.ref (a 6) :: rest)) :=
  va_get S.1 S.2.1 S.2.2.2.2 (fun w h => List.mem_cons_of_mem _ (inX1 w h)) S.2.2.2.1 hK hP (X.length + 6) cw_6 rfl 2 (by decide) (S.2.2.2.2 _ (List.mem_cons_of_mem _ wm_76)) (fun _ h => h) rfl hdg kk
theorem cf_known_count (S : CallFix p m c cc nL s args (w0 :: gw) RX1) (hK : va_K D vwCl (tyA cy) s) (hP : va_P D vwCl (X ++ cB cy a σ) H) (hdg : decode cc pc = .ok (.getfield 22, 3)) (kk : W p l e R s m args below meth c H locs cells slots Q (F0 m (pc + 3) ls (.int (σ.1 0 3) :: rest))) : W p l e R s m args below meth c H locs cells slots Q (F0 m pc ls (.ref (a 6) :: rest)) :=
  va_get S.1 S.2.1 S.2.2.2.2 (fun w h => List.mem_cons_of_mem _ (inX1 w h)) S.2.2.2.1 hK hP (X.length + 6) cw_6 rfl 3 (by decide) (S.2.2.2.2 _ (List.mem_cons_of_mem _ wm_78)) (fun _ h => h) rfl hdg kk
theorem cp_known_count {v : Int32} (S : CallFix p m c cc nL s args (w0 :: gw) RX1) (hK : va_K D vwCl (tyA cy) s) (hP : va_P D vwCl (X ++ cB cy a σ) H) (hD : va_D A (X ++ cB cy a σ)) (hS : va_S A s.heap H locs) (hdg : decode cc pc = .ok (.putfield 22, 3)) (kk : ∀ (H1 : Heap) (locs1 : List Loc), va_P D vwCl (X ++ cB cy a (sI 0 3 v σ)) H1 → va_D A (X ++ cB cy a (sI 0 3 v σ)) → va_S A s.heap H1 locs1 → W p l e R s m args below meth c H1 locs1 cells slots Q (F0 m (pc + 3) ls rest)) : W p l e R s m args below meth c H locs cells slots Q (F0 m pc ls (.int v :: .ref (a 6) :: rest)) :=
  va_put (ty := .int) S.1 S.2.1 S.2.2.2.2 (fun w h => List.mem_cons_of_mem _ (inX1 w h)) tyX1 tyX1_ok nmX1 S.2.2.2.1 hK hP hD hS (X.length + 6) cw_6 rfl 3 (by decide) (S.2.2.2.2 _ (List.mem_cons_of_mem _ wm_78)) (fun _ h => h) rfl (by decide +kernel) rfl rfl (Nat.le_of_ble_eq_true rfl) hdg (fun H1 locs1 hP1 hD1 hS1 => kk H1 locs1 (by rw [← cz_6_3]; exact hP1) (by rw [← cz_6_3]; exact hD1) hS1)
theorem cf_inFlight_number (S : CallFix p m c cc nL s args (w0 :: gw) RX1) (hK : va_K D vwCl (tyA cy) s) (hP : va_P D vwCl (X ++ cB cy a σ) H) (hdg : decode cc pc = .ok (.getfield 9, 3)) (kk : W p l e R s m args below meth c H locs cells slots Q (F0 m (pc + 3) ls (.ref (a 11) :: rest))) : W p l e R s m args below meth c H locs cells slots Q (F0 m pc ls (.ref (a 7) :: rest)) :=
  va_get S.1 S.2.1 S.2.2.2.2 (fun w h => List.mem_cons_of_mem _ (inX1 w h)) S.2.2.2.1 hK hP (X.length + 7) cw_7 rfl 0 (by decide) (S.2.2.2.2 _ (List.mem_cons_of_mem _ wm_72)) (fun _ h => h) rfl hdg kk
theorem cf_inFlight_born (S : CallFix p m c cc nL s args (w0 :: gw) RX1) (hK : va_K D vwCl (tyA cy) s) (hP : va_P D vwCl (X ++ cB cy a σ) H) (hdg : decode cc pc = .ok (.getfield 15, 3)) (kk : W p l e R s m args below meth c H locs cells slots Q (F0 m (pc + 3) ls (.ref (a 12) :: rest))) : W p l e R s m args below meth c H locs cells slots Q (F0 m pc ls (.ref (a 7) :: rest)) :=
  va_get S.1 S.2.1 S.2.2.2.2 (fun w h => List.mem_cons_of_mem _ (inX1 w h)) S.2.2.2.1 hK hP (X.length + 7) cw_7 rfl 1 (by decide) (S.2.2.2.2 _ (List.mem_cons_of_mem _ wm_74)) (fun _ h => h) rfl hdg kk
theorem cf_inFlight_costs (S : CallFix p m c cc nL s args (w0 :: gw) RX1) (hK : va_K D vwCl (tyA cy) s) (hP : va_P D vwCl (X ++ cB cy a σ) H) (hdg : decode cc pc = .ok (.getfield 18, 3)) (kk : W p l e R s m args below meth c H locs cells slots Q (F0 m (pc + 3) ls (.ref (a 13) :: rest))) : W p l e R s m args below meth c H locs cells slots Q (F0 m pc ls (.ref (a 7) :: rest)) :=
  va_get S.1 S.2.1 S.2.2.2.2 (fun w h => List.mem_cons_of_mem _ (inX1 w h)) S.2.2.2.1 hK hP (X.length + 7) cw_7 rfl 2 (by decide) (S.2.2.2.2 _ (List.mem_cons_of_mem _ wm_76)) (fun _ h => h) rfl hdg kk
theorem cf_inFlight_count (S : CallFix p m c cc nL s args (w0 :: gw) RX1) (hK : va_K D vwCl (tyA cy) s) (hP : va_P D vwCl (X ++ cB cy a σ) H) (hdg : decode cc pc = .ok (.getfield 22, 3)) (kk : W p l e R s m args below meth c H locs cells slots Q (F0 m (pc + 3) ls (.int (σ.1 0 4) :: rest))) : W p l e R s m args below meth c H locs cells slots Q (F0 m pc ls (.ref (a 7) :: rest)) :=
  va_get S.1 S.2.1 S.2.2.2.2 (fun w h => List.mem_cons_of_mem _ (inX1 w h)) S.2.2.2.1 hK hP (X.length + 7) cw_7 rfl 3 (by decide) (S.2.2.2.2 _ (List.mem_cons_of_mem _ wm_78)) (fun _ h => h) rfl hdg kk
theorem cp_inFlight_count {v : Int32} (S : CallFix p m c cc nL s args (w0 :: gw) RX1) (hK : va_K D vwCl (tyA cy) s) (hP : va_P D vwCl (X ++ cB cy a σ) H) (hD : va_D A (X ++ cB cy a σ)) (hS : va_S A s.heap H locs) (hdg : decode cc pc = .ok (.putfield 22, 3)) (kk : ∀ (H1 : Heap) (locs1 : List Loc), va_P D vwCl (X ++ cB cy a (sI 0 4 v σ)) H1 → va_D A (X ++ cB cy a (sI 0 4 v σ)) → va_S A s.heap H1 locs1 → W p l e R s m args below meth c H1 locs1 cells slots Q (F0 m (pc + 3) ls rest)) : W p l e R s m args below meth c H locs cells slots Q (F0 m pc ls (.int v :: .ref (a 7) :: rest)) :=
  va_put (ty := .int) S.1 S.2.1 S.2.2.2.2 (fun w h => List.mem_cons_of_mem _ (inX1 w h)) tyX1 tyX1_ok nmX1 S.2.2.2.1 hK hP hD hS (X.length + 7) cw_7 rfl 3 (by decide) (S.2.2.2.2 _ (List.mem_cons_of_mem _ wm_78)) (fun _ h => h) rfl (by decide +kernel) rfl rfl (Nat.le_of_ble_eq_true rfl) hdg (fun H1 locs1 hP1 hD1 hS1 => kk H1 locs1 (by rw [← cz_7_3]; exact hP1) (by rw [← cz_7_3]; exact hD1) hS1)
theorem cn_known_number (S : CallFix p m c cc nL s args (w0 :: gw) RX2) (hK : va_K D vwCl (tyA cy) s) (hN : kN nestC s) (hP : va_P D vwCl (X ++ cB cy a σ) H) (hdg : decode cc pc = .ok (.getfield 133, 3)) (kk : W p l e R s m args below meth c H locs cells slots Q (F0 m (pc + 3) ls (.ref (a 8) :: rest))) : W p l e R s m args below meth c H locs cells slots Q (F0 m pc ls (.ref (a 6) :: rest)) :=
  va_getN S.1 S.2.1 S.2.2.2.2 (fun w h => List.mem_cons_of_mem _ (inX1 w h)) S.2.2.2.1 hK hP (X.length + 6) cw_6 rfl 0 (by decide) (va_Nw.use rfl (hN _ nc_1)) (fun _ h => h) rfl hdg kk
theorem cn_known_born (S : CallFix p m c cc nL s args (w0 :: gw) RX2) (hK : va_K D vwCl (tyA cy) s) (hN : kN nestC s) (hP : va_P D vwCl (X ++ cB cy a σ) H) (hdg : decode cc pc = .ok (.getfield 136, 3)) (kk : W p l e R s m args below meth c H locs cells slots Q (F0 m (pc + 3) ls (.ref (a 9) :: rest))) : W p l e R s m args below meth c H locs cells slots Q (F0 m pc ls (.ref (a 6) :: rest)) :=
  va_getN S.1 S.2.1 S.2.2.2.2 (fun w h => List.mem_cons_of_mem _ (inX1 w h)) S.2.2.2.1 hK hP (X.length + 6) cw_6 rfl 1 (by decide) (va_Nw.use rfl (hN _ nc_2)) (fun _ h => h) rfl hdg kk
theorem cn_known_costs (S : CallFix p m c cc nL s args (w0 :: gw) RX2) (hK : va_K D vwCl (tyA cy) s) (hN : kN nestC s) (hP : va_P D vwCl (X ++ cB cy a σ) H) (hdg : decode cc pc = .ok (.getfield 217, 3)) (kk : W p l e R s m args below meth c H locs cells slots Q (F0 m (pc + 3) ls (.ref (a 10) :: rest))) : W p l e R s m args below meth c H locs cells slots Q (F0 m pc ls (.ref (a 6) :: rest)) :=
  va_getN S.1 S.2.1 S.2.2.2.2 (fun w h => List.mem_cons_of_mem _ (inX1 w h)) S.2.2.2.1 hK hP (X.length + 6) cw_6 rfl 2 (by decide) (va_Nw.use rfl (hN _ nc_3)) (fun _ h => h) rfl hdg kk
theorem cn_known_count (S : CallFix p m c cc nL s args (w0 :: gw) RX2) (hK : va_K D vwCl (tyA cy) s) (hN : kN nestC s) (hP : va_P D vwCl (X ++ cB cy a σ) H) (hdg : decode cc pc = .ok (.getfield 146, 3)) (kk : W p l e R s m args below meth c H locs cells slots Q (F0 m (pc + 3) ls (.int (σ.1 0 3) :: rest))) : W p l e R s m args below meth c H locs cells slots Q (F0 m pc ls (.ref (a 6) :: rest)) :=
  va_getN S.1 S.2.1 S.2.2.2.2 (fun w h => List.mem_cons_of_mem _ (inX1 w h)) S.2.2.2.1 hK hP (X.length + 6) cw_6 rfl 3 (by decide) (va_Nw.use rfl (hN _ nc_4)) (fun _ h => h) rfl hdg kk
theorem cn_inFlight_number (S : CallFix p m c cc nL s args (w0 :: gw) RX2) (hK : va_K D vwCl (tyA cy) s) (hN : kN nestC s) (hP : va_P D vwCl (X ++ cB cy a σ) H) (hdg : decode cc pc = .ok (.getfield 133, 3)) (kk : W p l e R s m args below meth c H locs cells slots Q (F0 m (pc + 3) ls (.ref (a 11) :: rest))) : W p l e R s m args below meth c H locs cells slots Q (F0 m pc ls (.ref (a 7) :: rest)) :=
  va_getN S.1 S.2.1 S.2.2.2.2 (fun w h => List.mem_cons_of_mem _ (inX1 w h)) S.2.2.2.1 hK hP (X.length + 7) cw_7 rfl 0 (by decide) (va_Nw.use rfl (hN _ nc_1)) (fun _ h => h) rfl hdg kk
theorem cn_inFlight_born (S : CallFix p m c cc nL s args (w0 :: gw) RX2) (hK : va_K D vwCl (tyA cy) s) (hN : kN nestC s) (hP : va_P D vwCl (X ++ cB cy a σ) H) (hdg : decode cc pc = .ok (.getfield 136, 3)) (kk : W p l e R s m args below meth c H locs cells slots Q (F0 m (pc + 3) ls (.ref (a 12) :: rest))) : W p l e R s m args below meth c H locs cells slots Q (F0 m pc ls (.ref (a 7) :: rest)) :=
  va_getN S.1 S.2.1 S.2.2.2.2 (fun w h => List.mem_cons_of_mem _ (inX1 w h)) S.2.2.2.1 hK hP (X.length + 7) cw_7 rfl 1 (by decide) (va_Nw.use rfl (hN _ nc_2)) (fun _ h => h) rfl hdg kk
theorem cn_inFlight_costs (S : CallFix p m c cc nL s args (w0 :: gw) RX2) (hK : va_K D vwCl (tyA cy) s) (hN : kN nestC s) (hP : va_P D vwCl (X ++ cB cy a σ) H) (hdg : decode cc pc = .ok (.getfield 217, 3)) (kk : W p l e R s m args below meth c H locs cells slots Q (F0 m (pc + 3) ls (.ref (a 13) :: rest))) : W p l e R s m args below meth c H locs cells slots Q (F0 m pc ls (.ref (a 7) :: rest)) :=
  va_getN S.1 S.2.1 S.2.2.2.2 (fun w h => List.mem_cons_of_mem _ (inX1 w h)) S.2.2.2.1 hK hP (X.length + 7) cw_7 rfl 2 (by decide) (va_Nw.use rfl (hN _ nc_3)) (fun _ h => h) rfl hdg kk
theorem cn_inFlight_count (S : CallFix p m c cc nL s args (w0 :: gw) RX2) (hK : va_K D vwCl (tyA cy) s) (hN : kN nestC s) (hP : va_P D vwCl (X ++ cB cy a σ) H) (hdg : decode cc pc = .ok (.getfield 146, 3)) (kk : W p l e R s m args below meth c H locs cells slots Q (F0 m (pc + 3) ls (.int (σ.1 0 4) :: rest))) : W p l e R s m args below meth c H locs cells slots Q (F0 m pc ls (.ref (a 7) :: rest)) :=
  va_getN S.1 S.2.1 S.2.2.2.2 (fun w h => List.mem_cons_of_mem _ (inX1 w h)) S.2.2.2.1 hK hP (X.length + 7) cw_7 rfl 3 (by decide) (va_Nw.use rfl (hN _ nc_4)) (fun _ h => h) rfl hdg kk
theorem ca_there {own : String} {Ts : List Cond} (S : CallFix p m c cc nL s args Ts own) (hK : va_K D vwCl (tyA cy) s) (hP : va_P D vwCl (X ++ cB cy a σ) H) {j : Nat} (hj : j < 8) (hdg : decode cc pc = .ok (.baload, 1)) (kk : W p l e R s m args below meth c H locs cells slots Q (F0 m (pc + 1) ls (.int (σ.1 1 j) :: rest))) : W p l e R s m args below meth c H locs cells slots Q (F0 m pc ls (.int (nI j) :: .ref (a 1) :: rest)) :=
  k_zald S hK hP (t0 := 2) cw_1 rfl hj (by decide) hdg kk
theorem cs_there {own : String} {Ts : List Cond} {v : Int32} (S : CallFix p m c cc nL s args Ts own) (hK : va_K D vwCl (tyA cy) s) (hP : va_P D vwCl (X ++ cB cy a σ) H) (hD : va_D A (X ++ cB cy a σ)) (hS : va_S A s.heap H locs) {j : Nat} (hj : j < 8) (hv : vp_nar .boolean v = v) (hdg : decode cc pc = .ok (.bastore, 1)) (kk : ∀ (H1 : Heap) (locs1 : List Loc), va_P D vwCl (X ++ cB cy a (sI 1 j v σ)) H1 → va_D A (X ++ cB cy a (sI 1 j v σ)) → va_S A s.heap H1 locs1 → W p l e R s m args below meth c H1 locs1 cells slots Q (F0 m (pc + 1) ls rest)) : W p l e R s m args below meth c H locs cells slots Q (F0 m pc ls (.int v :: .int (nI j) :: .ref (a 1) :: rest)) :=
  k_zast S hK hP hD hS (t0 := 2) cw_1 rfl hj (by decide) hv cz_1 hdg kk
theorem ca_latest {own : String} {Ts : List Cond} (S : CallFix p m c cc nL s args Ts own) (hK : va_K D vwCl (tyA cy) s) (hP : va_P D vwCl (X ++ cB cy a σ) H) {j : Nat} (hj : j < 8) (hdg : decode cc pc = .ok (.iaload, 1)) (kk : W p l e R s m args below meth c H locs cells slots Q (F0 m (pc + 1) ls (.int (σ.1 2 j) :: rest))) : W p l e R s m args below meth c H locs cells slots Q (F0 m pc ls (.int (nI j) :: .ref (a 2) :: rest)) :=
  k_iald S hK hP (t0 := 0) cw_2 rfl hj (by decide) hdg kk
theorem cs_latest {own : String} {Ts : List Cond} {v : Int32} (S : CallFix p m c cc nL s args Ts own) (hK : va_K D vwCl (tyA cy) s) (hP : va_P D vwCl (X ++ cB cy a σ) H) (hD : va_D A (X ++ cB cy a σ)) (hS : va_S A s.heap H locs) {j : Nat} (hj : j < 8) (hdg : decode cc pc = .ok (.iastore, 1)) (kk : ∀ (H1 : Heap) (locs1 : List Loc), va_P D vwCl (X ++ cB cy a (sI 2 j v σ)) H1 → va_D A (X ++ cB cy a (sI 2 j v σ)) → va_S A s.heap H1 locs1 → W p l e R s m args below meth c H1 locs1 cells slots Q (F0 m (pc + 1) ls rest)) : W p l e R s m args below meth c H locs cells slots Q (F0 m pc ls (.int v :: .int (nI j) :: .ref (a 2) :: rest)) :=
  k_iast S hK hP hD hS (t0 := 0) cw_2 rfl hj (by decide) cz_2 hdg kk
theorem ca_linkCost {own : String} {Ts : List Cond} (S : CallFix p m c cc nL s args Ts own) (hK : va_K D vwCl (tyA cy) s) (hP : va_P D vwCl (X ++ cB cy a σ) H) {j : Nat} (hj : j < 64) (hdg : decode cc pc = .ok (.iaload, 1)) (kk : W p l e R s m args below meth c H locs cells slots Q (F0 m (pc + 1) ls (.int (σ.1 3 j) :: rest))) : W p l e R s m args below meth c H locs cells slots Q (F0 m pc ls (.int (nI j) :: .ref (a 3) :: rest)) :=
  k_iald S hK hP (t0 := 0) cw_3 rfl hj (by decide) hdg kk
theorem cs_linkCost {own : String} {Ts : List Cond} {v : Int32} (S : CallFix p m c cc nL s args Ts own) (hK : va_K D vwCl (tyA cy) s) (hP : va_P D vwCl (X ++ cB cy a σ) H) (hD : va_D A (X ++ cB cy a σ)) (hS : va_S A s.heap H locs) {j : Nat} (hj : j < 64) (hdg : decode cc pc = .ok (.iastore, 1)) (kk : ∀ (H1 : Heap) (locs1 : List Loc), va_P D vwCl (X ++ cB cy a (sI 3 j v σ)) H1 → va_D A (X ++ cB cy a (sI 3 j v σ)) → va_S A s.heap H1 locs1 → W p l e R s m args below meth c H1 locs1 cells slots Q (F0 m (pc + 1) ls rest)) : W p l e R s m args below meth c H locs cells slots Q (F0 m pc ls (.int v :: .int (nI j) :: .ref (a 3) :: rest)) :=
  k_iast S hK hP hD hS (t0 := 0) cw_3 rfl hj (by decide) cz_3 hdg kk
theorem ca_linkDelay {own : String} {Ts : List Cond} (S : CallFix p m c cc nL s args Ts own) (hK : va_K D vwCl (tyA cy) s) (hP : va_P D vwCl (X ++ cB cy a σ) H) {j : Nat} (hj : j < 64) (hdg : decode cc pc = .ok (.iaload, 1)) (kk : W p l e R s m args below meth c H locs cells slots Q (F0 m (pc + 1) ls (.int (σ.1 4 j) :: rest))) : W p l e R s m args below meth c H locs cells slots Q (F0 m pc ls (.int (nI j) :: .ref (a 4) :: rest)) :=
  k_iald S hK hP (t0 := 0) cw_4 rfl hj (by decide) hdg kk
theorem cs_linkDelay {own : String} {Ts : List Cond} {v : Int32} (S : CallFix p m c cc nL s args Ts own) (hK : va_K D vwCl (tyA cy) s) (hP : va_P D vwCl (X ++ cB cy a σ) H) (hD : va_D A (X ++ cB cy a σ)) (hS : va_S A s.heap H locs) {j : Nat} (hj : j < 64) (hdg : decode cc pc = .ok (.iastore, 1)) (kk : ∀ (H1 : Heap) (locs1 : List Loc), va_P D vwCl (X ++ cB cy a (sI 4 j v σ)) H1 → va_D A (X ++ cB cy a (sI 4 j v σ)) → va_S A s.heap H1 locs1 → W p l e R s m args below meth c H1 locs1 cells slots Q (F0 m (pc + 1) ls rest)) : W p l e R s m args below meth c H locs cells slots Q (F0 m pc ls (.int v :: .int (nI j) :: .ref (a 4) :: rest)) :=
  k_iast S hK hP hD hS (t0 := 0) cw_4 rfl hj (by decide) cz_4 hdg kk
theorem ca_linkUp {own : String} {Ts : List Cond} (S : CallFix p m c cc nL s args Ts own) (hK : va_K D vwCl (tyA cy) s) (hP : va_P D vwCl (X ++ cB cy a σ) H) {j : Nat} (hj : j < 64) (hdg : decode cc pc = .ok (.baload, 1)) (kk : W p l e R s m args below meth c H locs cells slots Q (F0 m (pc + 1) ls (.int (σ.1 5 j) :: rest))) : W p l e R s m args below meth c H locs cells slots Q (F0 m pc ls (.int (nI j) :: .ref (a 5) :: rest)) :=
  k_zald S hK hP (t0 := 2) cw_5 rfl hj (by decide) hdg kk
theorem cs_linkUp {own : String} {Ts : List Cond} {v : Int32} (S : CallFix p m c cc nL s args Ts own) (hK : va_K D vwCl (tyA cy) s) (hP : va_P D vwCl (X ++ cB cy a σ) H) (hD : va_D A (X ++ cB cy a σ)) (hS : va_S A s.heap H locs) {j : Nat} (hj : j < 64) (hv : vp_nar .boolean v = v) (hdg : decode cc pc = .ok (.bastore, 1)) (kk : ∀ (H1 : Heap) (locs1 : List Loc), va_P D vwCl (X ++ cB cy a (sI 5 j v σ)) H1 → va_D A (X ++ cB cy a (sI 5 j v σ)) → va_S A s.heap H1 locs1 → W p l e R s m args below meth c H1 locs1 cells slots Q (F0 m (pc + 1) ls rest)) : W p l e R s m args below meth c H locs cells slots Q (F0 m pc ls (.int v :: .int (nI j) :: .ref (a 5) :: rest)) :=
  k_zast S hK hP hD hS (t0 := 2) cw_5 rfl hj (by decide) hv cz_5 hdg kk
theorem ca_knNumber {own : String} {Ts : List Cond} (S : CallFix p m c cc nL s args Ts own) (hK : va_K D vwCl (tyA cy) s) (hP : va_P D vwCl (X ++ cB cy a σ) H) {j : Nat} (hj : j < 64) (hdg : decode cc pc = .ok (.iaload, 1)) (kk : W p l e R s m args below meth c H locs cells slots Q (F0 m (pc + 1) ls (.int (σ.1 6 j) :: rest))) : W p l e R s m args below meth c H locs cells slots Q (F0 m pc ls (.int (nI j) :: .ref (a 8) :: rest)) :=
  k_iald S hK hP (t0 := 0) cw_8 rfl hj (by decide) hdg kk
theorem cs_knNumber {own : String} {Ts : List Cond} {v : Int32} (S : CallFix p m c cc nL s args Ts own) (hK : va_K D vwCl (tyA cy) s) (hP : va_P D vwCl (X ++ cB cy a σ) H) (hD : va_D A (X ++ cB cy a σ)) (hS : va_S A s.heap H locs) {j : Nat} (hj : j < 64) (hdg : decode cc pc = .ok (.iastore, 1)) (kk : ∀ (H1 : Heap) (locs1 : List Loc), va_P D vwCl (X ++ cB cy a (sI 6 j v σ)) H1 → va_D A (X ++ cB cy a (sI 6 j v σ)) → va_S A s.heap H1 locs1 → W p l e R s m args below meth c H1 locs1 cells slots Q (F0 m (pc + 1) ls rest)) : W p l e R s m args below meth c H locs cells slots Q (F0 m pc ls (.int v :: .int (nI j) :: .ref (a 8) :: rest)) :=
  k_iast S hK hP hD hS (t0 := 0) cw_8 rfl hj (by decide) cz_8 hdg kk
theorem ca_knBorn {own : String} {Ts : List Cond} (S : CallFix p m c cc nL s args Ts own) (hK : va_K D vwCl (tyA cy) s) (hP : va_P D vwCl (X ++ cB cy a σ) H) {j : Nat} (hj : j < 64) (hdg : decode cc pc = .ok (.iaload, 1)) (kk : W p l e R s m args below meth c H locs cells slots Q (F0 m (pc + 1) ls (.int (σ.1 7 j) :: rest))) : W p l e R s m args below meth c H locs cells slots Q (F0 m pc ls (.int (nI j) :: .ref (a 9) :: rest)) :=
  k_iald S hK hP (t0 := 0) cw_9 rfl hj (by decide) hdg kk
theorem cs_knBorn {own : String} {Ts : List Cond} {v : Int32} (S : CallFix p m c cc nL s args Ts own) (hK : va_K D vwCl (tyA cy) s) (hP : va_P D vwCl (X ++ cB cy a σ) H) (hD : va_D A (X ++ cB cy a σ)) (hS : va_S A s.heap H locs) {j : Nat} (hj : j < 64) (hdg : decode cc pc = .ok (.iastore, 1)) (kk : ∀ (H1 : Heap) (locs1 : List Loc), va_P D vwCl (X ++ cB cy a (sI 7 j v σ)) H1 → va_D A (X ++ cB cy a (sI 7 j v σ)) → va_S A s.heap H1 locs1 → W p l e R s m args below meth c H1 locs1 cells slots Q (F0 m (pc + 1) ls rest)) : W p l e R s m args below meth c H locs cells slots Q (F0 m pc ls (.int v :: .int (nI j) :: .ref (a 9) :: rest)) :=
  k_iast S hK hP hD hS (t0 := 0) cw_9 rfl hj (by decide) cz_9 hdg kk
theorem ca_knCosts {own : String} {Ts : List Cond} (S : CallFix p m c cc nL s args Ts own) (hK : va_K D vwCl (tyA cy) s) (hP : va_P D vwCl (X ++ cB cy a σ) H) {j : Nat} (hj : j < 64) (hdg : decode cc pc = .ok (.laload, 1)) (kk : W p l e R s m args below meth c H locs cells slots Q (F0 m (pc + 1) ls (.long (σ.2 0 j) :: rest))) : W p l e R s m args below meth c H locs cells slots Q (F0 m pc ls (.int (nI j) :: .ref (a 10) :: rest)) :=
  k_lald S hK hP (t0 := 1) cw_10 rfl hj (by decide) hdg kk
theorem cs_knCosts {own : String} {Ts : List Cond} {v : Int64} (S : CallFix p m c cc nL s args Ts own) (hK : va_K D vwCl (tyA cy) s) (hP : va_P D vwCl (X ++ cB cy a σ) H) (hD : va_D A (X ++ cB cy a σ)) (hS : va_S A s.heap H locs) {j : Nat} (hj : j < 64) (hdg : decode cc pc = .ok (.lastore, 1)) (kk : ∀ (H1 : Heap) (locs1 : List Loc), va_P D vwCl (X ++ cB cy a (sJ 0 j v σ)) H1 → va_D A (X ++ cB cy a (sJ 0 j v σ)) → va_S A s.heap H1 locs1 → W p l e R s m args below meth c H1 locs1 cells slots Q (F0 m (pc + 1) ls rest)) : W p l e R s m args below meth c H locs cells slots Q (F0 m pc ls (.long v :: .int (nI j) :: .ref (a 10) :: rest)) :=
  k_last S hK hP hD hS (t0 := 1) cw_10 rfl hj (by decide) cz_10 hdg kk
theorem ca_inNumber {own : String} {Ts : List Cond} (S : CallFix p m c cc nL s args Ts own) (hK : va_K D vwCl (tyA cy) s) (hP : va_P D vwCl (X ++ cB cy a σ) H) {j : Nat} (hj : j < 512) (hdg : decode cc pc = .ok (.iaload, 1)) (kk : W p l e R s m args below meth c H locs cells slots Q (F0 m (pc + 1) ls (.int (σ.1 8 j) :: rest))) : W p l e R s m args below meth c H locs cells slots Q (F0 m pc ls (.int (nI j) :: .ref (a 11) :: rest)) :=
  k_iald S hK hP (t0 := 0) cw_11 rfl hj (by decide) hdg kk
theorem cs_inNumber {own : String} {Ts : List Cond} {v : Int32} (S : CallFix p m c cc nL s args Ts own) (hK : va_K D vwCl (tyA cy) s) (hP : va_P D vwCl (X ++ cB cy a σ) H) (hD : va_D A (X ++ cB cy a σ)) (hS : va_S A s.heap H locs) {j : Nat} (hj : j < 512) (hdg : decode cc pc = .ok (.iastore, 1)) (kk : ∀ (H1 : Heap) (locs1 : List Loc), va_P D vwCl (X ++ cB cy a (sI 8 j v σ)) H1 → va_D A (X ++ cB cy a (sI 8 j v σ)) → va_S A s.heap H1 locs1 → W p l e R s m args below meth c H1 locs1 cells slots Q (F0 m (pc + 1) ls rest)) : W p l e R s m args below meth c H locs cells slots Q (F0 m pc ls (.int v :: .int (nI j) :: .ref (a 11) :: rest)) :=
  k_iast S hK hP hD hS (t0 := 0) cw_11 rfl hj (by decide) cz_11 hdg kk
theorem ca_inBorn {own : String} {Ts : List Cond} (S : CallFix p m c cc nL s args Ts own) (hK : va_K D vwCl (tyA cy) s) (hP : va_P D vwCl (X ++ cB cy a σ) H) {j : Nat} (hj : j < 512) (hdg : decode cc pc = .ok (.iaload, 1)) (kk : W p l e R s m args below meth c H locs cells slots Q (F0 m (pc + 1) ls (.int (σ.1 9 j) :: rest))) : W p l e R s m args below meth c H locs cells slots Q (F0 m pc ls (.int (nI j) :: .ref (a 12) :: rest)) :=
  k_iald S hK hP (t0 := 0) cw_12 rfl hj (by decide) hdg kk
theorem cs_inBorn {own : String} {Ts : List Cond} {v : Int32} (S : CallFix p m c cc nL s args Ts own) (hK : va_K D vwCl (tyA cy) s) (hP : va_P D vwCl (X ++ cB cy a σ) H) (hD : va_D A (X ++ cB cy a σ)) (hS : va_S A s.heap H locs) {j : Nat} (hj : j < 512) (hdg : decode cc pc = .ok (.iastore, 1)) (kk : ∀ (H1 : Heap) (locs1 : List Loc), va_P D vwCl (X ++ cB cy a (sI 9 j v σ)) H1 → va_D A (X ++ cB cy a (sI 9 j v σ)) → va_S A s.heap H1 locs1 → W p l e R s m args below meth c H1 locs1 cells slots Q (F0 m (pc + 1) ls rest)) : W p l e R s m args below meth c H locs cells slots Q (F0 m pc ls (.int v :: .int (nI j) :: .ref (a 12) :: rest)) :=
  k_iast S hK hP hD hS (t0 := 0) cw_12 rfl hj (by decide) cz_12 hdg kk
theorem ca_inCosts {own : String} {Ts : List Cond} (S : CallFix p m c cc nL s args Ts own) (hK : va_K D vwCl (tyA cy) s) (hP : va_P D vwCl (X ++ cB cy a σ) H) {j : Nat} (hj : j < 512) (hdg : decode cc pc = .ok (.laload, 1)) (kk : W p l e R s m args below meth c H locs cells slots Q (F0 m (pc + 1) ls (.long (σ.2 1 j) :: rest))) : W p l e R s m args below meth c H locs cells slots Q (F0 m pc ls (.int (nI j) :: .ref (a 13) :: rest)) :=
  k_lald S hK hP (t0 := 1) cw_13 rfl hj (by decide) hdg kk
theorem cs_inCosts {own : String} {Ts : List Cond} {v : Int64} (S : CallFix p m c cc nL s args Ts own) (hK : va_K D vwCl (tyA cy) s) (hP : va_P D vwCl (X ++ cB cy a σ) H) (hD : va_D A (X ++ cB cy a σ)) (hS : va_S A s.heap H locs) {j : Nat} (hj : j < 512) (hdg : decode cc pc = .ok (.lastore, 1)) (kk : ∀ (H1 : Heap) (locs1 : List Loc), va_P D vwCl (X ++ cB cy a (sJ 1 j v σ)) H1 → va_D A (X ++ cB cy a (sJ 1 j v σ)) → va_S A s.heap H1 locs1 → W p l e R s m args below meth c H1 locs1 cells slots Q (F0 m (pc + 1) ls rest)) : W p l e R s m args below meth c H locs cells slots Q (F0 m pc ls (.long v :: .int (nI j) :: .ref (a 13) :: rest)) :=
  k_last S hK hP hD hS (t0 := 1) cw_13 rfl hj (by decide) cz_13 hdg kk
theorem ca_newsArrival {own : String} {Ts : List Cond} (S : CallFix p m c cc nL s args Ts own) (hK : va_K D vwCl (tyA cy) s) (hP : va_P D vwCl (X ++ cB cy a σ) H) {j : Nat} (hj : j < 512) (hdg : decode cc pc = .ok (.iaload, 1)) (kk : W p l e R s m args below meth c H locs cells slots Q (F0 m (pc + 1) ls (.int (σ.1 10 j) :: rest))) : W p l e R s m args below meth c H locs cells slots Q (F0 m pc ls (.int (nI j) :: .ref (a 14) :: rest)) :=
  k_iald S hK hP (t0 := 0) cw_14 rfl hj (by decide) hdg kk
theorem cs_newsArrival {own : String} {Ts : List Cond} {v : Int32} (S : CallFix p m c cc nL s args Ts own) (hK : va_K D vwCl (tyA cy) s) (hP : va_P D vwCl (X ++ cB cy a σ) H) (hD : va_D A (X ++ cB cy a σ)) (hS : va_S A s.heap H locs) {j : Nat} (hj : j < 512) (hdg : decode cc pc = .ok (.iastore, 1)) (kk : ∀ (H1 : Heap) (locs1 : List Loc), va_P D vwCl (X ++ cB cy a (sI 10 j v σ)) H1 → va_D A (X ++ cB cy a (sI 10 j v σ)) → va_S A s.heap H1 locs1 → W p l e R s m args below meth c H1 locs1 cells slots Q (F0 m (pc + 1) ls rest)) : W p l e R s m args below meth c H locs cells slots Q (F0 m pc ls (.int v :: .int (nI j) :: .ref (a 14) :: rest)) :=
  k_iast S hK hP hD hS (t0 := 0) cw_14 rfl hj (by decide) cz_14 hdg kk
theorem ca_costToGoal {own : String} {Ts : List Cond} (S : CallFix p m c cc nL s args Ts own) (hK : va_K D vwCl (tyA cy) s) (hP : va_P D vwCl (X ++ cB cy a σ) H) {j : Nat} (hj : j < 8) (hdg : decode cc pc = .ok (.iaload, 1)) (kk : W p l e R s m args below meth c H locs cells slots Q (F0 m (pc + 1) ls (.int (σ.1 11 j) :: rest))) : W p l e R s m args below meth c H locs cells slots Q (F0 m pc ls (.int (nI j) :: .ref (a 15) :: rest)) :=
  k_iald S hK hP (t0 := 0) cw_15 rfl hj (by decide) hdg kk
theorem cs_costToGoal {own : String} {Ts : List Cond} {v : Int32} (S : CallFix p m c cc nL s args Ts own) (hK : va_K D vwCl (tyA cy) s) (hP : va_P D vwCl (X ++ cB cy a σ) H) (hD : va_D A (X ++ cB cy a σ)) (hS : va_S A s.heap H locs) {j : Nat} (hj : j < 8) (hdg : decode cc pc = .ok (.iastore, 1)) (kk : ∀ (H1 : Heap) (locs1 : List Loc), va_P D vwCl (X ++ cB cy a (sI 11 j v σ)) H1 → va_D A (X ++ cB cy a (sI 11 j v σ)) → va_S A s.heap H1 locs1 → W p l e R s m args below meth c H1 locs1 cells slots Q (F0 m (pc + 1) ls rest)) : W p l e R s m args below meth c H locs cells slots Q (F0 m pc ls (.int v :: .int (nI j) :: .ref (a 15) :: rest)) :=
  k_iast S hK hP hD hS (t0 := 0) cw_15 rfl hj (by decide) cz_15 hdg kk
theorem crecv_net (hK : va_K D vwCl (tyA cy) s) (hP : va_P D vwCl (X ++ cB cy a σ) H) : ∃ cell : Cell, H[a 0]? = some cell ∧ cell.vm.isStatics = false ∧ s.vm.findClass RX2 = some cell.cls := va_recv hK hP (ci := 2) (q := (RX2, TX2, 13)) (q0 := X.length + 0) rfl cw_0
theorem crecv_known (hK : va_K D vwCl (tyA cy) s) (hP : va_P D vwCl (X ++ cB cy a σ) H) : ∃ cell : Cell, H[a 6]? = some cell ∧ cell.vm.isStatics = false ∧ s.vm.findClass RX1 = some cell.cls := va_recv hK hP (ci := 1) (q := (RX1, TX1, 4)) (q0 := X.length + 6) rfl cw_6
theorem crecv_inFlight (hK : va_K D vwCl (tyA cy) s) (hP : va_P D vwCl (X ++ cB cy a σ) H) : ∃ cell : Cell, H[a 7]? = some cell ∧ cell.vm.isStatics = false ∧ s.vm.findClass RX1 = some cell.cls := va_recv hK hP (ci := 1) (q := (RX1, TX1, 4)) (q0 := X.length + 7) rfl cw_7
end CW
end
section
/-! THE REFERENCE'S WORLD: τ k j is the array of the field k (in the class's order), τ 0 k the int field k; the object at a 0, the array of field k at a k. -/
abbrev MS : Type := Nat → Nat → Int32
def mS (k j : Nat) (v : Int32) (τ : MS) : MS := va_up τ k (upd (τ k) j v)
def mB (cy : Nat → ClassId) (a : Nat → Nat) (τ : MS) : va_W := [(a 0, .inr (3, [.int (τ 0 0), .int (τ 0 1), .ref (a 2), .ref (a 3), .int (τ 0 4), .ref (a 5), .ref (a 6), .ref (a 7), .ref (a 8), .ref (a 9), .ref (a 10), .ref (a 11), .ref (a 12), .ref (a 13), .ref (a 14), .ref (a 15), .int (τ 0 16), .ref (a 17), .ref (a 18), .ref (a 19), .ref (a 20), .ref (a 21), .ref (a 22), .ref (a 23), .ref (a 24), .ref (a 25), .ref (a 26)])),
  (a 2, .inl (cy 2, 8, .inl (τ 2))),
  (a 3, .inl (cy 0, 8, .inl (τ 3))),
  (a 5, .inl (cy 2, 64, .inl (τ 5))),
  (a 6, .inl (cy 0, 64, .inl (τ 6))),
  (a 7, .inl (cy 0, 64, .inl (τ 7))),
  (a 8, .inl (cy 2, 64, .inl (τ 8))),
  (a 9, .inl (cy 0, 64, .inl (τ 9))),
  (a 10, .inl (cy 0, 64, .inl (τ 10))),
  (a 11, .inl (cy 0, 512, .inl (τ 11))),
  (a 12, .inl (cy 0, 512, .inl (τ 12))),
  (a 13, .inl (cy 0, 512, .inl (τ 13))),
  (a 14, .inl (cy 0, 512, .inl (τ 14))),
  (a 15, .inl (cy 0, 4096, .inl (τ 15))),
  (a 17, .inl (cy 0, 20, .inl (τ 17))),
  (a 18, .inl (cy 0, 20, .inl (τ 18))),
  (a 19, .inl (cy 0, 20, .inl (τ 19))),
  (a 20, .inl (cy 0, 20, .inl (τ 20))),
  (a 21, .inl (cy 0, 20, .inl (τ 21))),
  (a 22, .inl (cy 0, 20, .inl (τ 22))),
  (a 23, .inl (cy 0, 20, .inl (τ 23))),
  (a 24, .inl (cy 0, 800, .inl (τ 24))),
  (a 25, .inl (cy 0, 8, .inl (τ 25))),
  (a 26, .inl (cy 2, 64, .inl (τ 26)))]
section MW
variable {p : Program} {l : Launch} {e : Env} {R : Room} {s : State} {m : MethodId} {args : Array Value} {below : List Frame} {meth : Method} {c : Code} {H : Heap} {locs : List Loc} {cells slots : Nat} {Q : State → Prop}
variable {cc : ByteArray} {pc nL : Nat} {ls : Array Slot} {rest : List Value} {D : va_G} {A : Nat → Prop} {w0 : Cond} {X : va_W} {cy : Nat → ClassId} {a : Nat → Nat}
variable {τ : MS}
theorem mw_obj : (X ++ mB cy a τ)[X.length + 0]? = some (a 0, .inr (3, [.int (τ 0 0), .int (τ 0 1), .ref (a 2), .ref (a 3), .int (τ 0 4), .ref (a 5), .ref (a 6), .ref (a 7), .ref (a 8), .ref (a 9), .ref (a 10), .ref (a 11), .ref (a 12), .ref (a 13), .ref (a 14), .ref (a 15), .int (τ 0 16), .ref (a 17), .ref (a 18), .ref (a 19), .ref (a 20), .ref (a 21), .ref (a 22), .ref (a 23), .ref (a 24), .ref (a 25), .ref (a 26)])) := by rw [List.getElem?_append_right (Nat.le_add_right _ _), Nat.add_sub_cancel_left]; rfl
theorem mw_there : (X ++ mB cy a τ)[X.length + 1]? = some (a 2, .inl (cy 2, 8, .inl (τ 2))) := by rw [List.getElem?_append_right (Nat.le_add_right _ _), Nat.add_sub_cancel_left]; rfl
theorem mw_made : (X ++ mB cy a τ)[X.length + 2]? = some (a 3, .inl (cy 0, 8, .inl (τ 3))) := by rw [List.getElem?_append_right (Nat.le_add_right _ _), Nat.add_sub_cancel_left]; rfl
theorem mw_joined : (X ++ mB cy a τ)[X.length + 3]? = some (a 5, .inl (cy 2, 64, .inl (τ 5))) := by rw [List.getElem?_append_right (Nat.le_add_right _ _), Nat.add_sub_cancel_left]; rfl
theorem mw_costs : (X ++ mB cy a τ)[X.length + 4]? = some (a 6, .inl (cy 0, 64, .inl (τ 6))) := by rw [List.getElem?_append_right (Nat.le_add_right _ _), Nat.add_sub_cancel_left]; rfl
theorem mw_delays : (X ++ mB cy a τ)[X.length + 5]? = some (a 7, .inl (cy 0, 64, .inl (τ 7))) := by rw [List.getElem?_append_right (Nat.le_add_right _ _), Nat.add_sub_cancel_left]; rfl
theorem mw_up : (X ++ mB cy a τ)[X.length + 6]? = some (a 8, .inl (cy 2, 64, .inl (τ 8))) := by rw [List.getElem?_append_right (Nat.le_add_right _ _), Nat.add_sub_cancel_left]; rfl
theorem mw_numbers : (X ++ mB cy a τ)[X.length + 7]? = some (a 9, .inl (cy 0, 64, .inl (τ 9))) := by rw [List.getElem?_append_right (Nat.le_add_right _ _), Nat.add_sub_cancel_left]; rfl
theorem mw_ages : (X ++ mB cy a τ)[X.length + 8]? = some (a 10, .inl (cy 0, 64, .inl (τ 10))) := by rw [List.getElem?_append_right (Nat.le_add_right _ _), Nat.add_sub_cancel_left]; rfl
theorem mw_tells : (X ++ mB cy a τ)[X.length + 9]? = some (a 11, .inl (cy 0, 512, .inl (τ 11))) := by rw [List.getElem?_append_right (Nat.le_add_right _ _), Nat.add_sub_cancel_left]; rfl
theorem mw_flightNumbers : (X ++ mB cy a τ)[X.length + 10]? = some (a 12, .inl (cy 0, 512, .inl (τ 12))) := by rw [List.getElem?_append_right (Nat.le_add_right _ _), Nat.add_sub_cancel_left]; rfl
theorem mw_flightAges : (X ++ mB cy a τ)[X.length + 11]? = some (a 13, .inl (cy 0, 512, .inl (τ 13))) := by rw [List.getElem?_append_right (Nat.le_add_right _ _), Nat.add_sub_cancel_left]; rfl
theorem mw_flightTimes : (X ++ mB cy a τ)[X.length + 12]? = some (a 14, .inl (cy 0, 512, .inl (τ 14))) := by rw [List.getElem?_append_right (Nat.le_add_right _ _), Nat.add_sub_cancel_left]; rfl
theorem mw_flightTells : (X ++ mB cy a τ)[X.length + 13]? = some (a 15, .inl (cy 0, 4096, .inl (τ 15))) := by rw [List.getElem?_append_right (Nat.le_add_right _ _), Nat.add_sub_cancel_left]; rfl
theorem mw_targets : (X ++ mB cy a τ)[X.length + 14]? = some (a 17, .inl (cy 0, 20, .inl (τ 17))) := by rw [List.getElem?_append_right (Nat.le_add_right _ _), Nat.add_sub_cancel_left]; rfl
theorem mw_lives : (X ++ mB cy a τ)[X.length + 15]? = some (a 18, .inl (cy 0, 20, .inl (τ 18))) := by rw [List.getElem?_append_right (Nat.le_add_right _ _), Nat.add_sub_cancel_left]; rfl
theorem mw_states : (X ++ mB cy a τ)[X.length + 16]? = some (a 19, .inl (cy 0, 20, .inl (τ 19))) := by rw [List.getElem?_append_right (Nat.le_add_right _ _), Nat.add_sub_cancel_left]; rfl
theorem mw_comesFrom : (X ++ mB cy a τ)[X.length + 17]? = some (a 20, .inl (cy 0, 20, .inl (τ 20))) := by rw [List.getElem?_append_right (Nat.le_add_right _ _), Nat.add_sub_cancel_left]; rfl
theorem mw_comesTo : (X ++ mB cy a τ)[X.length + 18]? = some (a 21, .inl (cy 0, 20, .inl (τ 21))) := by rw [List.getElem?_append_right (Nat.le_add_right _ _), Nat.add_sub_cancel_left]; rfl
theorem mw_comesAt : (X ++ mB cy a τ)[X.length + 19]? = some (a 22, .inl (cy 0, 20, .inl (τ 22))) := by rw [List.getElem?_append_right (Nat.le_add_right _ _), Nat.add_sub_cancel_left]; rfl
theorem mw_traceCounts : (X ++ mB cy a τ)[X.length + 20]? = some (a 23, .inl (cy 0, 20, .inl (τ 23))) := by rw [List.getElem?_append_right (Nat.le_add_right _ _), Nat.add_sub_cancel_left]; rfl
theorem mw_traces : (X ++ mB cy a τ)[X.length + 21]? = some (a 24, .inl (cy 0, 800, .inl (τ 24))) := by rw [List.getElem?_append_right (Nat.le_add_right _ _), Nat.add_sub_cancel_left]; rfl
theorem mw_far : (X ++ mB cy a τ)[X.length + 22]? = some (a 25, .inl (cy 0, 8, .inl (τ 25))) := by rw [List.getElem?_append_right (Nat.le_add_right _ _), Nat.add_sub_cancel_left]; rfl
theorem mw_together : (X ++ mB cy a τ)[X.length + 23]? = some (a 26, .inl (cy 2, 64, .inl (τ 26))) := by rw [List.getElem?_append_right (Nat.le_add_right _ _), Nat.add_sub_cancel_left]; rfl
theorem mf_thrown (S : CallFix p m c cc nL s args (w0 :: gw) RX3) (hK : va_K D vwCl (tyA cy) s) (hP : va_P D vwCl (X ++ mB cy a τ) H) (hdg : decode cc pc = .ok (.getfield 80, 3)) (kk : W p l e R s m args below meth c H locs cells slots Q (F0 m (pc + 3) ls (.int (τ 0 0) :: rest))) : W p l e R s m args below meth c H locs cells slots Q (F0 m pc ls (.ref (a 0) :: rest)) :=
  va_get S.1 S.2.1 S.2.2.2.2 (fun w h => List.mem_cons_of_mem _ (inX3 w h)) S.2.2.2.1 hK hP (X.length + 0) mw_obj rfl 0 (by decide) (S.2.2.2.2 _ (List.mem_cons_of_mem _ wm_483)) (fun _ h => h) rfl hdg kk
theorem mz_thrown {v : Int32} : (X ++ mB cy a τ).set (X.length + 0) (a 0, .inr (3, [.int v, .int (τ 0 1), .ref (a 2), .ref (a 3), .int (τ 0 4), .ref (a 5), .ref (a 6), .ref (a 7), .ref (a 8), .ref (a 9), .ref (a 10), .ref (a 11), .ref (a 12), .ref (a 13), .ref (a 14), .ref (a 15), .int (τ 0 16), .ref (a 17), .ref (a 18), .ref (a 19), .ref (a 20), .ref (a 21), .ref (a 22), .ref (a 23), .ref (a 24), .ref (a 25), .ref (a 26)])) = X ++ mB cy a (mS 0 0 v τ) := by rw [List.set_append_right _ _ (Nat.le_add_right _ _), Nat.add_sub_cancel_left]; rfl
theorem mp_thrown {v : Int32} (S : CallFix p m c cc nL s args (w0 :: gw) RX3) (hK : va_K D vwCl (tyA cy) s) (hP : va_P D vwCl (X ++ mB cy a τ) H) (hD : va_D A (X ++ mB cy a τ)) (hS : va_S A s.heap H locs) (hdg : decode cc pc = .ok (.putfield 80, 3)) (kk : ∀ (H1 : Heap) (locs1 : List Loc), va_P D vwCl (X ++ mB cy a (mS 0 0 v τ)) H1 → va_D A (X ++ mB cy a (mS 0 0 v τ)) → va_S A s.heap H1 locs1 → W p l e R s m args below meth c H1 locs1 cells slots Q (F0 m (pc + 3) ls rest)) : W p l e R s m args below meth c H locs cells slots Q (F0 m pc ls (.int v :: .ref (a 0) :: rest)) :=
  va_put (ty := .int) S.1 S.2.1 S.2.2.2.2 (fun w h => List.mem_cons_of_mem _ (inX3 w h)) tyX3 tyX3_ok nmX3 S.2.2.2.1 hK hP hD hS (X.length + 0) mw_obj rfl 0 (by decide) (S.2.2.2.2 _ (List.mem_cons_of_mem _ wm_483)) (fun _ h => h) rfl (by decide +kernel) rfl rfl (Nat.le_of_ble_eq_true rfl) hdg (fun H1 locs1 hP1 hD1 hS1 => kk H1 locs1 (by rw [← mz_thrown]; exact hP1) (by rw [← mz_thrown]; exact hD1) hS1)
theorem mf_time (S : CallFix p m c cc nL s args (w0 :: gw) RX3) (hK : va_K D vwCl (tyA cy) s) (hP : va_P D vwCl (X ++ mB cy a τ) H) (hdg : decode cc pc = .ok (.getfield 96, 3)) (kk : W p l e R s m args below meth c H locs cells slots Q (F0 m (pc + 3) ls (.int (τ 0 1) :: rest))) : W p l e R s m args below meth c H locs cells slots Q (F0 m pc ls (.ref (a 0) :: rest)) :=
  va_get S.1 S.2.1 S.2.2.2.2 (fun w h => List.mem_cons_of_mem _ (inX3 w h)) S.2.2.2.1 hK hP (X.length + 0) mw_obj rfl 1 (by decide) (S.2.2.2.2 _ (List.mem_cons_of_mem _ wm_484)) (fun _ h => h) rfl hdg kk
theorem mz_time {v : Int32} : (X ++ mB cy a τ).set (X.length + 0) (a 0, .inr (3, [.int (τ 0 0), .int v, .ref (a 2), .ref (a 3), .int (τ 0 4), .ref (a 5), .ref (a 6), .ref (a 7), .ref (a 8), .ref (a 9), .ref (a 10), .ref (a 11), .ref (a 12), .ref (a 13), .ref (a 14), .ref (a 15), .int (τ 0 16), .ref (a 17), .ref (a 18), .ref (a 19), .ref (a 20), .ref (a 21), .ref (a 22), .ref (a 23), .ref (a 24), .ref (a 25), .ref (a 26)])) = X ++ mB cy a (mS 0 1 v τ) := by rw [List.set_append_right _ _ (Nat.le_add_right _ _), Nat.add_sub_cancel_left]; rfl
theorem mp_time {v : Int32} (S : CallFix p m c cc nL s args (w0 :: gw) RX3) (hK : va_K D vwCl (tyA cy) s) (hP : va_P D vwCl (X ++ mB cy a τ) H) (hD : va_D A (X ++ mB cy a τ)) (hS : va_S A s.heap H locs) (hdg : decode cc pc = .ok (.putfield 96, 3)) (kk : ∀ (H1 : Heap) (locs1 : List Loc), va_P D vwCl (X ++ mB cy a (mS 0 1 v τ)) H1 → va_D A (X ++ mB cy a (mS 0 1 v τ)) → va_S A s.heap H1 locs1 → W p l e R s m args below meth c H1 locs1 cells slots Q (F0 m (pc + 3) ls rest)) : W p l e R s m args below meth c H locs cells slots Q (F0 m pc ls (.int v :: .ref (a 0) :: rest)) :=
  va_put (ty := .int) S.1 S.2.1 S.2.2.2.2 (fun w h => List.mem_cons_of_mem _ (inX3 w h)) tyX3 tyX3_ok nmX3 S.2.2.2.1 hK hP hD hS (X.length + 0) mw_obj rfl 1 (by decide) (S.2.2.2.2 _ (List.mem_cons_of_mem _ wm_484)) (fun _ h => h) rfl (by decide +kernel) rfl rfl (Nat.le_of_ble_eq_true rfl) hdg (fun H1 locs1 hP1 hD1 hS1 => kk H1 locs1 (by rw [← mz_time]; exact hP1) (by rw [← mz_time]; exact hD1) hS1)
theorem mf_there (S : CallFix p m c cc nL s args (w0 :: gw) RX3) (hK : va_K D vwCl (tyA cy) s) (hP : va_P D vwCl (X ++ mB cy a τ) H) (hdg : decode cc pc = .ok (.getfield 7, 3)) (kk : W p l e R s m args below meth c H locs cells slots Q (F0 m (pc + 3) ls (.ref (a 2) :: rest))) : W p l e R s m args below meth c H locs cells slots Q (F0 m pc ls (.ref (a 0) :: rest)) :=
  va_get S.1 S.2.1 S.2.2.2.2 (fun w h => List.mem_cons_of_mem _ (inX3 w h)) S.2.2.2.1 hK hP (X.length + 0) mw_obj rfl 2 (by decide) (S.2.2.2.2 _ (List.mem_cons_of_mem _ wm_485)) (fun _ h => h) rfl hdg kk
theorem mz_there {j : Nat} {v : Int32} : (X ++ mB cy a τ).set (X.length + 1) (a 2, .inl (cy 2, 8, .inl (upd (τ 2) j v))) = X ++ mB cy a (mS 2 j v τ) := by rw [List.set_append_right _ _ (Nat.le_add_right _ _), Nat.add_sub_cancel_left]; rfl
theorem ma_there {own : String} {Ts : List Cond} (S : CallFix p m c cc nL s args Ts own) (hK : va_K D vwCl (tyA cy) s) (hP : va_P D vwCl (X ++ mB cy a τ) H) {j : Nat} (hj : j < 8) (hdg : decode cc pc = .ok (.baload, 1)) (kk : W p l e R s m args below meth c H locs cells slots Q (F0 m (pc + 1) ls (.int (τ 2 j) :: rest))) : W p l e R s m args below meth c H locs cells slots Q (F0 m pc ls (.int (nI j) :: .ref (a 2) :: rest)) :=
  k_zald S hK hP (t0 := 2) mw_there rfl hj (by decide) hdg kk
theorem ms_there {own : String} {Ts : List Cond} {v : Int32} (S : CallFix p m c cc nL s args Ts own) (hK : va_K D vwCl (tyA cy) s) (hP : va_P D vwCl (X ++ mB cy a τ) H) (hD : va_D A (X ++ mB cy a τ)) (hS : va_S A s.heap H locs) {j : Nat} (hj : j < 8) (hv : vp_nar .boolean v = v) (hdg : decode cc pc = .ok (.bastore, 1)) (kk : ∀ (H1 : Heap) (locs1 : List Loc), va_P D vwCl (X ++ mB cy a (mS 2 j v τ)) H1 → va_D A (X ++ mB cy a (mS 2 j v τ)) → va_S A s.heap H1 locs1 → W p l e R s m args below meth c H1 locs1 cells slots Q (F0 m (pc + 1) ls rest)) : W p l e R s m args below meth c H locs cells slots Q (F0 m pc ls (.int v :: .int (nI j) :: .ref (a 2) :: rest)) :=
  k_zast S hK hP hD hS (t0 := 2) mw_there rfl hj (by decide) hv mz_there hdg kk
theorem mf_made (S : CallFix p m c cc nL s args (w0 :: gw) RX3) (hK : va_K D vwCl (tyA cy) s) (hP : va_P D vwCl (X ++ mB cy a τ) H) (hdg : decode cc pc = .ok (.getfield 13, 3)) (kk : W p l e R s m args below meth c H locs cells slots Q (F0 m (pc + 3) ls (.ref (a 3) :: rest))) : W p l e R s m args below meth c H locs cells slots Q (F0 m pc ls (.ref (a 0) :: rest)) :=
  va_get S.1 S.2.1 S.2.2.2.2 (fun w h => List.mem_cons_of_mem _ (inX3 w h)) S.2.2.2.1 hK hP (X.length + 0) mw_obj rfl 3 (by decide) (S.2.2.2.2 _ (List.mem_cons_of_mem _ wm_486)) (fun _ h => h) rfl hdg kk
theorem mz_made {j : Nat} {v : Int32} : (X ++ mB cy a τ).set (X.length + 2) (a 3, .inl (cy 0, 8, .inl (upd (τ 3) j v))) = X ++ mB cy a (mS 3 j v τ) := by rw [List.set_append_right _ _ (Nat.le_add_right _ _), Nat.add_sub_cancel_left]; rfl
theorem ma_made {own : String} {Ts : List Cond} (S : CallFix p m c cc nL s args Ts own) (hK : va_K D vwCl (tyA cy) s) (hP : va_P D vwCl (X ++ mB cy a τ) H) {j : Nat} (hj : j < 8) (hdg : decode cc pc = .ok (.iaload, 1)) (kk : W p l e R s m args below meth c H locs cells slots Q (F0 m (pc + 1) ls (.int (τ 3 j) :: rest))) : W p l e R s m args below meth c H locs cells slots Q (F0 m pc ls (.int (nI j) :: .ref (a 3) :: rest)) :=
  k_iald S hK hP (t0 := 0) mw_made rfl hj (by decide) hdg kk
theorem ms_made {own : String} {Ts : List Cond} {v : Int32} (S : CallFix p m c cc nL s args Ts own) (hK : va_K D vwCl (tyA cy) s) (hP : va_P D vwCl (X ++ mB cy a τ) H) (hD : va_D A (X ++ mB cy a τ)) (hS : va_S A s.heap H locs) {j : Nat} (hj : j < 8) (hdg : decode cc pc = .ok (.iastore, 1)) (kk : ∀ (H1 : Heap) (locs1 : List Loc), va_P D vwCl (X ++ mB cy a (mS 3 j v τ)) H1 → va_D A (X ++ mB cy a (mS 3 j v τ)) → va_S A s.heap H1 locs1 → W p l e R s m args below meth c H1 locs1 cells slots Q (F0 m (pc + 1) ls rest)) : W p l e R s m args below meth c H locs cells slots Q (F0 m pc ls (.int v :: .int (nI j) :: .ref (a 3) :: rest)) :=
  k_iast S hK hP hD hS (t0 := 0) mw_made rfl hj (by decide) mz_made hdg kk
theorem mf_links (S : CallFix p m c cc nL s args (w0 :: gw) RX3) (hK : va_K D vwCl (tyA cy) s) (hP : va_P D vwCl (X ++ mB cy a τ) H) (hdg : decode cc pc = .ok (.getfield 114, 3)) (kk : W p l e R s m args below meth c H locs cells slots Q (F0 m (pc + 3) ls (.int (τ 0 4) :: rest))) : W p l e R s m args below meth c H locs cells slots Q (F0 m pc ls (.ref (a 0) :: rest)) :=
  va_get S.1 S.2.1 S.2.2.2.2 (fun w h => List.mem_cons_of_mem _ (inX3 w h)) S.2.2.2.1 hK hP (X.length + 0) mw_obj rfl 4 (by decide) (S.2.2.2.2 _ (List.mem_cons_of_mem _ wm_487)) (fun _ h => h) rfl hdg kk
theorem mz_links {v : Int32} : (X ++ mB cy a τ).set (X.length + 0) (a 0, .inr (3, [.int (τ 0 0), .int (τ 0 1), .ref (a 2), .ref (a 3), .int v, .ref (a 5), .ref (a 6), .ref (a 7), .ref (a 8), .ref (a 9), .ref (a 10), .ref (a 11), .ref (a 12), .ref (a 13), .ref (a 14), .ref (a 15), .int (τ 0 16), .ref (a 17), .ref (a 18), .ref (a 19), .ref (a 20), .ref (a 21), .ref (a 22), .ref (a 23), .ref (a 24), .ref (a 25), .ref (a 26)])) = X ++ mB cy a (mS 0 4 v τ) := by rw [List.set_append_right _ _ (Nat.le_add_right _ _), Nat.add_sub_cancel_left]; rfl
theorem mp_links {v : Int32} (S : CallFix p m c cc nL s args (w0 :: gw) RX3) (hK : va_K D vwCl (tyA cy) s) (hP : va_P D vwCl (X ++ mB cy a τ) H) (hD : va_D A (X ++ mB cy a τ)) (hS : va_S A s.heap H locs) (hdg : decode cc pc = .ok (.putfield 114, 3)) (kk : ∀ (H1 : Heap) (locs1 : List Loc), va_P D vwCl (X ++ mB cy a (mS 0 4 v τ)) H1 → va_D A (X ++ mB cy a (mS 0 4 v τ)) → va_S A s.heap H1 locs1 → W p l e R s m args below meth c H1 locs1 cells slots Q (F0 m (pc + 3) ls rest)) : W p l e R s m args below meth c H locs cells slots Q (F0 m pc ls (.int v :: .ref (a 0) :: rest)) :=
  va_put (ty := .int) S.1 S.2.1 S.2.2.2.2 (fun w h => List.mem_cons_of_mem _ (inX3 w h)) tyX3 tyX3_ok nmX3 S.2.2.2.1 hK hP hD hS (X.length + 0) mw_obj rfl 4 (by decide) (S.2.2.2.2 _ (List.mem_cons_of_mem _ wm_487)) (fun _ h => h) rfl (by decide +kernel) rfl rfl (Nat.le_of_ble_eq_true rfl) hdg (fun H1 locs1 hP1 hD1 hS1 => kk H1 locs1 (by rw [← mz_links]; exact hP1) (by rw [← mz_links]; exact hD1) hS1)
theorem mf_joined (S : CallFix p m c cc nL s args (w0 :: gw) RX3) (hK : va_K D vwCl (tyA cy) s) (hP : va_P D vwCl (X ++ mB cy a τ) H) (hdg : decode cc pc = .ok (.getfield 17, 3)) (kk : W p l e R s m args below meth c H locs cells slots Q (F0 m (pc + 3) ls (.ref (a 5) :: rest))) : W p l e R s m args below meth c H locs cells slots Q (F0 m pc ls (.ref (a 0) :: rest)) :=
  va_get S.1 S.2.1 S.2.2.2.2 (fun w h => List.mem_cons_of_mem _ (inX3 w h)) S.2.2.2.1 hK hP (X.length + 0) mw_obj rfl 5 (by decide) (S.2.2.2.2 _ (List.mem_cons_of_mem _ wm_488)) (fun _ h => h) rfl hdg kk
theorem mz_joined {j : Nat} {v : Int32} : (X ++ mB cy a τ).set (X.length + 3) (a 5, .inl (cy 2, 64, .inl (upd (τ 5) j v))) = X ++ mB cy a (mS 5 j v τ) := by rw [List.set_append_right _ _ (Nat.le_add_right _ _), Nat.add_sub_cancel_left]; rfl
theorem ma_joined {own : String} {Ts : List Cond} (S : CallFix p m c cc nL s args Ts own) (hK : va_K D vwCl (tyA cy) s) (hP : va_P D vwCl (X ++ mB cy a τ) H) {j : Nat} (hj : j < 64) (hdg : decode cc pc = .ok (.baload, 1)) (kk : W p l e R s m args below meth c H locs cells slots Q (F0 m (pc + 1) ls (.int (τ 5 j) :: rest))) : W p l e R s m args below meth c H locs cells slots Q (F0 m pc ls (.int (nI j) :: .ref (a 5) :: rest)) :=
  k_zald S hK hP (t0 := 2) mw_joined rfl hj (by decide) hdg kk
theorem ms_joined {own : String} {Ts : List Cond} {v : Int32} (S : CallFix p m c cc nL s args Ts own) (hK : va_K D vwCl (tyA cy) s) (hP : va_P D vwCl (X ++ mB cy a τ) H) (hD : va_D A (X ++ mB cy a τ)) (hS : va_S A s.heap H locs) {j : Nat} (hj : j < 64) (hv : vp_nar .boolean v = v) (hdg : decode cc pc = .ok (.bastore, 1)) (kk : ∀ (H1 : Heap) (locs1 : List Loc), va_P D vwCl (X ++ mB cy a (mS 5 j v τ)) H1 → va_D A (X ++ mB cy a (mS 5 j v τ)) → va_S A s.heap H1 locs1 → W p l e R s m args below meth c H1 locs1 cells slots Q (F0 m (pc + 1) ls rest)) : W p l e R s m args below meth c H locs cells slots Q (F0 m pc ls (.int v :: .int (nI j) :: .ref (a 5) :: rest)) :=
  k_zast S hK hP hD hS (t0 := 2) mw_joined rfl hj (by decide) hv mz_joined hdg kk
theorem mf_costs (S : CallFix p m c cc nL s args (w0 :: gw) RX3) (hK : va_K D vwCl (tyA cy) s) (hP : va_P D vwCl (X ++ mB cy a τ) H) (hdg : decode cc pc = .ok (.getfield 20, 3)) (kk : W p l e R s m args below meth c H locs cells slots Q (F0 m (pc + 3) ls (.ref (a 6) :: rest))) : W p l e R s m args below meth c H locs cells slots Q (F0 m pc ls (.ref (a 0) :: rest)) :=
  va_get S.1 S.2.1 S.2.2.2.2 (fun w h => List.mem_cons_of_mem _ (inX3 w h)) S.2.2.2.1 hK hP (X.length + 0) mw_obj rfl 6 (by decide) (S.2.2.2.2 _ (List.mem_cons_of_mem _ wm_489)) (fun _ h => h) rfl hdg kk
theorem mz_costs {j : Nat} {v : Int32} : (X ++ mB cy a τ).set (X.length + 4) (a 6, .inl (cy 0, 64, .inl (upd (τ 6) j v))) = X ++ mB cy a (mS 6 j v τ) := by rw [List.set_append_right _ _ (Nat.le_add_right _ _), Nat.add_sub_cancel_left]; rfl
theorem ma_costs {own : String} {Ts : List Cond} (S : CallFix p m c cc nL s args Ts own) (hK : va_K D vwCl (tyA cy) s) (hP : va_P D vwCl (X ++ mB cy a τ) H) {j : Nat} (hj : j < 64) (hdg : decode cc pc = .ok (.iaload, 1)) (kk : W p l e R s m args below meth c H locs cells slots Q (F0 m (pc + 1) ls (.int (τ 6 j) :: rest))) : W p l e R s m args below meth c H locs cells slots Q (F0 m pc ls (.int (nI j) :: .ref (a 6) :: rest)) :=
  k_iald S hK hP (t0 := 0) mw_costs rfl hj (by decide) hdg kk
theorem ms_costs {own : String} {Ts : List Cond} {v : Int32} (S : CallFix p m c cc nL s args Ts own) (hK : va_K D vwCl (tyA cy) s) (hP : va_P D vwCl (X ++ mB cy a τ) H) (hD : va_D A (X ++ mB cy a τ)) (hS : va_S A s.heap H locs) {j : Nat} (hj : j < 64) (hdg : decode cc pc = .ok (.iastore, 1)) (kk : ∀ (H1 : Heap) (locs1 : List Loc), va_P D vwCl (X ++ mB cy a (mS 6 j v τ)) H1 → va_D A (X ++ mB cy a (mS 6 j v τ)) → va_S A s.heap H1 locs1 → W p l e R s m args below meth c H1 locs1 cells slots Q (F0 m (pc + 1) ls rest)) : W p l e R s m args below meth c H locs cells slots Q (F0 m pc ls (.int v :: .int (nI j) :: .ref (a 6) :: rest)) :=
  k_iast S hK hP hD hS (t0 := 0) mw_costs rfl hj (by decide) mz_costs hdg kk
theorem mf_delays (S : CallFix p m c cc nL s args (w0 :: gw) RX3) (hK : va_K D vwCl (tyA cy) s) (hP : va_P D vwCl (X ++ mB cy a τ) H) (hdg : decode cc pc = .ok (.getfield 23, 3)) (kk : W p l e R s m args below meth c H locs cells slots Q (F0 m (pc + 3) ls (.ref (a 7) :: rest))) : W p l e R s m args below meth c H locs cells slots Q (F0 m pc ls (.ref (a 0) :: rest)) :=
  va_get S.1 S.2.1 S.2.2.2.2 (fun w h => List.mem_cons_of_mem _ (inX3 w h)) S.2.2.2.1 hK hP (X.length + 0) mw_obj rfl 7 (by decide) (S.2.2.2.2 _ (List.mem_cons_of_mem _ wm_490)) (fun _ h => h) rfl hdg kk
theorem mz_delays {j : Nat} {v : Int32} : (X ++ mB cy a τ).set (X.length + 5) (a 7, .inl (cy 0, 64, .inl (upd (τ 7) j v))) = X ++ mB cy a (mS 7 j v τ) := by rw [List.set_append_right _ _ (Nat.le_add_right _ _), Nat.add_sub_cancel_left]; rfl
theorem ma_delays {own : String} {Ts : List Cond} (S : CallFix p m c cc nL s args Ts own) (hK : va_K D vwCl (tyA cy) s) (hP : va_P D vwCl (X ++ mB cy a τ) H) {j : Nat} (hj : j < 64) (hdg : decode cc pc = .ok (.iaload, 1)) (kk : W p l e R s m args below meth c H locs cells slots Q (F0 m (pc + 1) ls (.int (τ 7 j) :: rest))) : W p l e R s m args below meth c H locs cells slots Q (F0 m pc ls (.int (nI j) :: .ref (a 7) :: rest)) :=
  k_iald S hK hP (t0 := 0) mw_delays rfl hj (by decide) hdg kk
theorem ms_delays {own : String} {Ts : List Cond} {v : Int32} (S : CallFix p m c cc nL s args Ts own) (hK : va_K D vwCl (tyA cy) s) (hP : va_P D vwCl (X ++ mB cy a τ) H) (hD : va_D A (X ++ mB cy a τ)) (hS : va_S A s.heap H locs) {j : Nat} (hj : j < 64) (hdg : decode cc pc = .ok (.iastore, 1)) (kk : ∀ (H1 : Heap) (locs1 : List Loc), va_P D vwCl (X ++ mB cy a (mS 7 j v τ)) H1 → va_D A (X ++ mB cy a (mS 7 j v τ)) → va_S A s.heap H1 locs1 → W p l e R s m args below meth c H1 locs1 cells slots Q (F0 m (pc + 1) ls rest)) : W p l e R s m args below meth c H locs cells slots Q (F0 m pc ls (.int v :: .int (nI j) :: .ref (a 7) :: rest)) :=
  k_iast S hK hP hD hS (t0 := 0) mw_delays rfl hj (by decide) mz_delays hdg kk
theorem mf_up (S : CallFix p m c cc nL s args (w0 :: gw) RX3) (hK : va_K D vwCl (tyA cy) s) (hP : va_P D vwCl (X ++ mB cy a τ) H) (hdg : decode cc pc = .ok (.getfield 26, 3)) (kk : W p l e R s m args below meth c H locs cells slots Q (F0 m (pc + 3) ls (.ref (a 8) :: rest))) : W p l e R s m args below meth c H locs cells slots Q (F0 m pc ls (.ref (a 0) :: rest)) :=
  va_get S.1 S.2.1 S.2.2.2.2 (fun w h => List.mem_cons_of_mem _ (inX3 w h)) S.2.2.2.1 hK hP (X.length + 0) mw_obj rfl 8 (by decide) (S.2.2.2.2 _ (List.mem_cons_of_mem _ wm_491)) (fun _ h => h) rfl hdg kk
theorem mz_up {j : Nat} {v : Int32} : (X ++ mB cy a τ).set (X.length + 6) (a 8, .inl (cy 2, 64, .inl (upd (τ 8) j v))) = X ++ mB cy a (mS 8 j v τ) := by rw [List.set_append_right _ _ (Nat.le_add_right _ _), Nat.add_sub_cancel_left]; rfl
theorem ma_up {own : String} {Ts : List Cond} (S : CallFix p m c cc nL s args Ts own) (hK : va_K D vwCl (tyA cy) s) (hP : va_P D vwCl (X ++ mB cy a τ) H) {j : Nat} (hj : j < 64) (hdg : decode cc pc = .ok (.baload, 1)) (kk : W p l e R s m args below meth c H locs cells slots Q (F0 m (pc + 1) ls (.int (τ 8 j) :: rest))) : W p l e R s m args below meth c H locs cells slots Q (F0 m pc ls (.int (nI j) :: .ref (a 8) :: rest)) :=
  k_zald S hK hP (t0 := 2) mw_up rfl hj (by decide) hdg kk
theorem ms_up {own : String} {Ts : List Cond} {v : Int32} (S : CallFix p m c cc nL s args Ts own) (hK : va_K D vwCl (tyA cy) s) (hP : va_P D vwCl (X ++ mB cy a τ) H) (hD : va_D A (X ++ mB cy a τ)) (hS : va_S A s.heap H locs) {j : Nat} (hj : j < 64) (hv : vp_nar .boolean v = v) (hdg : decode cc pc = .ok (.bastore, 1)) (kk : ∀ (H1 : Heap) (locs1 : List Loc), va_P D vwCl (X ++ mB cy a (mS 8 j v τ)) H1 → va_D A (X ++ mB cy a (mS 8 j v τ)) → va_S A s.heap H1 locs1 → W p l e R s m args below meth c H1 locs1 cells slots Q (F0 m (pc + 1) ls rest)) : W p l e R s m args below meth c H locs cells slots Q (F0 m pc ls (.int v :: .int (nI j) :: .ref (a 8) :: rest)) :=
  k_zast S hK hP hD hS (t0 := 2) mw_up rfl hj (by decide) hv mz_up hdg kk
theorem mf_numbers (S : CallFix p m c cc nL s args (w0 :: gw) RX3) (hK : va_K D vwCl (tyA cy) s) (hP : va_P D vwCl (X ++ mB cy a τ) H) (hdg : decode cc pc = .ok (.getfield 29, 3)) (kk : W p l e R s m args below meth c H locs cells slots Q (F0 m (pc + 3) ls (.ref (a 9) :: rest))) : W p l e R s m args below meth c H locs cells slots Q (F0 m pc ls (.ref (a 0) :: rest)) :=
  va_get S.1 S.2.1 S.2.2.2.2 (fun w h => List.mem_cons_of_mem _ (inX3 w h)) S.2.2.2.1 hK hP (X.length + 0) mw_obj rfl 9 (by decide) (S.2.2.2.2 _ (List.mem_cons_of_mem _ wm_492)) (fun _ h => h) rfl hdg kk
theorem mz_numbers {j : Nat} {v : Int32} : (X ++ mB cy a τ).set (X.length + 7) (a 9, .inl (cy 0, 64, .inl (upd (τ 9) j v))) = X ++ mB cy a (mS 9 j v τ) := by rw [List.set_append_right _ _ (Nat.le_add_right _ _), Nat.add_sub_cancel_left]; rfl
theorem ma_numbers {own : String} {Ts : List Cond} (S : CallFix p m c cc nL s args Ts own) (hK : va_K D vwCl (tyA cy) s) (hP : va_P D vwCl (X ++ mB cy a τ) H) {j : Nat} (hj : j < 64) (hdg : decode cc pc = .ok (.iaload, 1)) (kk : W p l e R s m args below meth c H locs cells slots Q (F0 m (pc + 1) ls (.int (τ 9 j) :: rest))) : W p l e R s m args below meth c H locs cells slots Q (F0 m pc ls (.int (nI j) :: .ref (a 9) :: rest)) :=
  k_iald S hK hP (t0 := 0) mw_numbers rfl hj (by decide) hdg kk
theorem ms_numbers {own : String} {Ts : List Cond} {v : Int32} (S : CallFix p m c cc nL s args Ts own) (hK : va_K D vwCl (tyA cy) s) (hP : va_P D vwCl (X ++ mB cy a τ) H) (hD : va_D A (X ++ mB cy a τ)) (hS : va_S A s.heap H locs) {j : Nat} (hj : j < 64) (hdg : decode cc pc = .ok (.iastore, 1)) (kk : ∀ (H1 : Heap) (locs1 : List Loc), va_P D vwCl (X ++ mB cy a (mS 9 j v τ)) H1 → va_D A (X ++ mB cy a (mS 9 j v τ)) → va_S A s.heap H1 locs1 → W p l e R s m args below meth c H1 locs1 cells slots Q (F0 m (pc + 1) ls rest)) : W p l e R s m args below meth c H locs cells slots Q (F0 m pc ls (.int v :: .int (nI j) :: .ref (a 9) :: rest)) :=
  k_iast S hK hP hD hS (t0 := 0) mw_numbers rfl hj (by decide) mz_numbers hdg kk
theorem mf_ages (S : CallFix p m c cc nL s args (w0 :: gw) RX3) (hK : va_K D vwCl (tyA cy) s) (hP : va_P D vwCl (X ++ mB cy a τ) H) (hdg : decode cc pc = .ok (.getfield 32, 3)) (kk : W p l e R s m args below meth c H locs cells slots Q (F0 m (pc + 3) ls (.ref (a 10) :: rest))) : W p l e R s m args below meth c H locs cells slots Q (F0 m pc ls (.ref (a 0) :: rest)) :=
  va_get S.1 S.2.1 S.2.2.2.2 (fun w h => List.mem_cons_of_mem _ (inX3 w h)) S.2.2.2.1 hK hP (X.length + 0) mw_obj rfl 10 (by decide) (S.2.2.2.2 _ (List.mem_cons_of_mem _ wm_493)) (fun _ h => h) rfl hdg kk
theorem mz_ages {j : Nat} {v : Int32} : (X ++ mB cy a τ).set (X.length + 8) (a 10, .inl (cy 0, 64, .inl (upd (τ 10) j v))) = X ++ mB cy a (mS 10 j v τ) := by rw [List.set_append_right _ _ (Nat.le_add_right _ _), Nat.add_sub_cancel_left]; rfl
theorem ma_ages {own : String} {Ts : List Cond} (S : CallFix p m c cc nL s args Ts own) (hK : va_K D vwCl (tyA cy) s) (hP : va_P D vwCl (X ++ mB cy a τ) H) {j : Nat} (hj : j < 64) (hdg : decode cc pc = .ok (.iaload, 1)) (kk : W p l e R s m args below meth c H locs cells slots Q (F0 m (pc + 1) ls (.int (τ 10 j) :: rest))) : W p l e R s m args below meth c H locs cells slots Q (F0 m pc ls (.int (nI j) :: .ref (a 10) :: rest)) :=
  k_iald S hK hP (t0 := 0) mw_ages rfl hj (by decide) hdg kk
theorem ms_ages {own : String} {Ts : List Cond} {v : Int32} (S : CallFix p m c cc nL s args Ts own) (hK : va_K D vwCl (tyA cy) s) (hP : va_P D vwCl (X ++ mB cy a τ) H) (hD : va_D A (X ++ mB cy a τ)) (hS : va_S A s.heap H locs) {j : Nat} (hj : j < 64) (hdg : decode cc pc = .ok (.iastore, 1)) (kk : ∀ (H1 : Heap) (locs1 : List Loc), va_P D vwCl (X ++ mB cy a (mS 10 j v τ)) H1 → va_D A (X ++ mB cy a (mS 10 j v τ)) → va_S A s.heap H1 locs1 → W p l e R s m args below meth c H1 locs1 cells slots Q (F0 m (pc + 1) ls rest)) : W p l e R s m args below meth c H locs cells slots Q (F0 m pc ls (.int v :: .int (nI j) :: .ref (a 10) :: rest)) :=
  k_iast S hK hP hD hS (t0 := 0) mw_ages rfl hj (by decide) mz_ages hdg kk
theorem mf_tells (S : CallFix p m c cc nL s args (w0 :: gw) RX3) (hK : va_K D vwCl (tyA cy) s) (hP : va_P D vwCl (X ++ mB cy a τ) H) (hdg : decode cc pc = .ok (.getfield 35, 3)) (kk : W p l e R s m args below meth c H locs cells slots Q (F0 m (pc + 3) ls (.ref (a 11) :: rest))) : W p l e R s m args below meth c H locs cells slots Q (F0 m pc ls (.ref (a 0) :: rest)) :=
  va_get S.1 S.2.1 S.2.2.2.2 (fun w h => List.mem_cons_of_mem _ (inX3 w h)) S.2.2.2.1 hK hP (X.length + 0) mw_obj rfl 11 (by decide) (S.2.2.2.2 _ (List.mem_cons_of_mem _ wm_494)) (fun _ h => h) rfl hdg kk
theorem mz_tells {j : Nat} {v : Int32} : (X ++ mB cy a τ).set (X.length + 9) (a 11, .inl (cy 0, 512, .inl (upd (τ 11) j v))) = X ++ mB cy a (mS 11 j v τ) := by rw [List.set_append_right _ _ (Nat.le_add_right _ _), Nat.add_sub_cancel_left]; rfl
theorem ma_tells {own : String} {Ts : List Cond} (S : CallFix p m c cc nL s args Ts own) (hK : va_K D vwCl (tyA cy) s) (hP : va_P D vwCl (X ++ mB cy a τ) H) {j : Nat} (hj : j < 512) (hdg : decode cc pc = .ok (.iaload, 1)) (kk : W p l e R s m args below meth c H locs cells slots Q (F0 m (pc + 1) ls (.int (τ 11 j) :: rest))) : W p l e R s m args below meth c H locs cells slots Q (F0 m pc ls (.int (nI j) :: .ref (a 11) :: rest)) :=
  k_iald S hK hP (t0 := 0) mw_tells rfl hj (by decide) hdg kk
theorem ms_tells {own : String} {Ts : List Cond} {v : Int32} (S : CallFix p m c cc nL s args Ts own) (hK : va_K D vwCl (tyA cy) s) (hP : va_P D vwCl (X ++ mB cy a τ) H) (hD : va_D A (X ++ mB cy a τ)) (hS : va_S A s.heap H locs) {j : Nat} (hj : j < 512) (hdg : decode cc pc = .ok (.iastore, 1)) (kk : ∀ (H1 : Heap) (locs1 : List Loc), va_P D vwCl (X ++ mB cy a (mS 11 j v τ)) H1 → va_D A (X ++ mB cy a (mS 11 j v τ)) → va_S A s.heap H1 locs1 → W p l e R s m args below meth c H1 locs1 cells slots Q (F0 m (pc + 1) ls rest)) : W p l e R s m args below meth c H locs cells slots Q (F0 m pc ls (.int v :: .int (nI j) :: .ref (a 11) :: rest)) :=
  k_iast S hK hP hD hS (t0 := 0) mw_tells rfl hj (by decide) mz_tells hdg kk
theorem mf_flightNumbers (S : CallFix p m c cc nL s args (w0 :: gw) RX3) (hK : va_K D vwCl (tyA cy) s) (hP : va_P D vwCl (X ++ mB cy a τ) H) (hdg : decode cc pc = .ok (.getfield 38, 3)) (kk : W p l e R s m args below meth c H locs cells slots Q (F0 m (pc + 3) ls (.ref (a 12) :: rest))) : W p l e R s m args below meth c H locs cells slots Q (F0 m pc ls (.ref (a 0) :: rest)) :=
  va_get S.1 S.2.1 S.2.2.2.2 (fun w h => List.mem_cons_of_mem _ (inX3 w h)) S.2.2.2.1 hK hP (X.length + 0) mw_obj rfl 12 (by decide) (S.2.2.2.2 _ (List.mem_cons_of_mem _ wm_495)) (fun _ h => h) rfl hdg kk
theorem mz_flightNumbers {j : Nat} {v : Int32} : (X ++ mB cy a τ).set (X.length + 10) (a 12, .inl (cy 0, 512, .inl (upd (τ 12) j v))) = X ++ mB cy a (mS 12 j v τ) := by rw [List.set_append_right _ _ (Nat.le_add_right _ _), Nat.add_sub_cancel_left]; rfl
theorem ma_flightNumbers {own : String} {Ts : List Cond} (S : CallFix p m c cc nL s args Ts own) (hK : va_K D vwCl (tyA cy) s) (hP : va_P D vwCl (X ++ mB cy a τ) H) {j : Nat} (hj : j < 512) (hdg : decode cc pc = .ok (.iaload, 1)) (kk : W p l e R s m args below meth c H locs cells slots Q (F0 m (pc + 1) ls (.int (τ 12 j) :: rest))) : W p l e R s m args below meth c H locs cells slots Q (F0 m pc ls (.int (nI j) :: .ref (a 12) :: rest)) :=
  k_iald S hK hP (t0 := 0) mw_flightNumbers rfl hj (by decide) hdg kk
theorem ms_flightNumbers {own : String} {Ts : List Cond} {v : Int32} (S : CallFix p m c cc nL s args Ts own) (hK : va_K D vwCl (tyA cy) s) (hP : va_P D vwCl (X ++ mB cy a τ) H) (hD : va_D A (X ++ mB cy a τ)) (hS : va_S A s.heap H locs) {j : Nat} (hj : j < 512) (hdg : decode cc pc = .ok (.iastore, 1)) (kk : ∀ (H1 : Heap) (locs1 : List Loc), va_P D vwCl (X ++ mB cy a (mS 12 j v τ)) H1 → va_D A (X ++ mB cy a (mS 12 j v τ)) → va_S A s.heap H1 locs1 → W p l e R s m args below meth c H1 locs1 cells slots Q (F0 m (pc + 1) ls rest)) : W p l e R s m args below meth c H locs cells slots Q (F0 m pc ls (.int v :: .int (nI j) :: .ref (a 12) :: rest)) :=
  k_iast S hK hP hD hS (t0 := 0) mw_flightNumbers rfl hj (by decide) mz_flightNumbers hdg kk
theorem mf_flightAges (S : CallFix p m c cc nL s args (w0 :: gw) RX3) (hK : va_K D vwCl (tyA cy) s) (hP : va_P D vwCl (X ++ mB cy a τ) H) (hdg : decode cc pc = .ok (.getfield 41, 3)) (kk : W p l e R s m args below meth c H locs cells slots Q (F0 m (pc + 3) ls (.ref (a 13) :: rest))) : W p l e R s m args below meth c H locs cells slots Q (F0 m pc ls (.ref (a 0) :: rest)) :=
  va_get S.1 S.2.1 S.2.2.2.2 (fun w h => List.mem_cons_of_mem _ (inX3 w h)) S.2.2.2.1 hK hP (X.length + 0) mw_obj rfl 13 (by decide) (S.2.2.2.2 _ (List.mem_cons_of_mem _ wm_496)) (fun _ h => h) rfl hdg kk
theorem mz_flightAges {j : Nat} {v : Int32} : (X ++ mB cy a τ).set (X.length + 11) (a 13, .inl (cy 0, 512, .inl (upd (τ 13) j v))) = X ++ mB cy a (mS 13 j v τ) := by rw [List.set_append_right _ _ (Nat.le_add_right _ _), Nat.add_sub_cancel_left]; rfl
theorem ma_flightAges {own : String} {Ts : List Cond} (S : CallFix p m c cc nL s args Ts own) (hK : va_K D vwCl (tyA cy) s) (hP : va_P D vwCl (X ++ mB cy a τ) H) {j : Nat} (hj : j < 512) (hdg : decode cc pc = .ok (.iaload, 1)) (kk : W p l e R s m args below meth c H locs cells slots Q (F0 m (pc + 1) ls (.int (τ 13 j) :: rest))) : W p l e R s m args below meth c H locs cells slots Q (F0 m pc ls (.int (nI j) :: .ref (a 13) :: rest)) :=
  k_iald S hK hP (t0 := 0) mw_flightAges rfl hj (by decide) hdg kk
theorem ms_flightAges {own : String} {Ts : List Cond} {v : Int32} (S : CallFix p m c cc nL s args Ts own) (hK : va_K D vwCl (tyA cy) s) (hP : va_P D vwCl (X ++ mB cy a τ) H) (hD : va_D A (X ++ mB cy a τ)) (hS : va_S A s.heap H locs) {j : Nat} (hj : j < 512) (hdg : decode cc pc = .ok (.iastore, 1)) (kk : ∀ (H1 : Heap) (locs1 : List Loc), va_P D vwCl (X ++ mB cy a (mS 13 j v τ)) H1 → va_D A (X ++ mB cy a (mS 13 j v τ)) → va_S A s.heap H1 locs1 → W p l e R s m args below meth c H1 locs1 cells slots Q (F0 m (pc + 1) ls rest)) : W p l e R s m args below meth c H locs cells slots Q (F0 m pc ls (.int v :: .int (nI j) :: .ref (a 13) :: rest)) :=
  k_iast S hK hP hD hS (t0 := 0) mw_flightAges rfl hj (by decide) mz_flightAges hdg kk
theorem mf_flightTimes (S : CallFix p m c cc nL s args (w0 :: gw) RX3) (hK : va_K D vwCl (tyA cy) s) (hP : va_P D vwCl (X ++ mB cy a τ) H) (hdg : decode cc pc = .ok (.getfield 44, 3)) (kk : W p l e R s m args below meth c H locs cells slots Q (F0 m (pc + 3) ls (.ref (a 14) :: rest))) : W p l e R s m args below meth c H locs cells slots Q (F0 m pc ls (.ref (a 0) :: rest)) :=
  va_get S.1 S.2.1 S.2.2.2.2 (fun w h => List.mem_cons_of_mem _ (inX3 w h)) S.2.2.2.1 hK hP (X.length + 0) mw_obj rfl 14 (by decide) (S.2.2.2.2 _ (List.mem_cons_of_mem _ wm_497)) (fun _ h => h) rfl hdg kk
theorem mz_flightTimes {j : Nat} {v : Int32} : (X ++ mB cy a τ).set (X.length + 12) (a 14, .inl (cy 0, 512, .inl (upd (τ 14) j v))) = X ++ mB cy a (mS 14 j v τ) := by rw [List.set_append_right _ _ (Nat.le_add_right _ _), Nat.add_sub_cancel_left]; rfl
theorem ma_flightTimes {own : String} {Ts : List Cond} (S : CallFix p m c cc nL s args Ts own) (hK : va_K D vwCl (tyA cy) s) (hP : va_P D vwCl (X ++ mB cy a τ) H) {j : Nat} (hj : j < 512) (hdg : decode cc pc = .ok (.iaload, 1)) (kk : W p l e R s m args below meth c H locs cells slots Q (F0 m (pc + 1) ls (.int (τ 14 j) :: rest))) : W p l e R s m args below meth c H locs cells slots Q (F0 m pc ls (.int (nI j) :: .ref (a 14) :: rest)) :=
  k_iald S hK hP (t0 := 0) mw_flightTimes rfl hj (by decide) hdg kk
theorem ms_flightTimes {own : String} {Ts : List Cond} {v : Int32} (S : CallFix p m c cc nL s args Ts own) (hK : va_K D vwCl (tyA cy) s) (hP : va_P D vwCl (X ++ mB cy a τ) H) (hD : va_D A (X ++ mB cy a τ)) (hS : va_S A s.heap H locs) {j : Nat} (hj : j < 512) (hdg : decode cc pc = .ok (.iastore, 1)) (kk : ∀ (H1 : Heap) (locs1 : List Loc), va_P D vwCl (X ++ mB cy a (mS 14 j v τ)) H1 → va_D A (X ++ mB cy a (mS 14 j v τ)) → va_S A s.heap H1 locs1 → W p l e R s m args below meth c H1 locs1 cells slots Q (F0 m (pc + 1) ls rest)) : W p l e R s m args below meth c H locs cells slots Q (F0 m pc ls (.int v :: .int (nI j) :: .ref (a 14) :: rest)) :=
  k_iast S hK hP hD hS (t0 := 0) mw_flightTimes rfl hj (by decide) mz_flightTimes hdg kk
theorem mf_flightTells (S : CallFix p m c cc nL s args (w0 :: gw) RX3) (hK : va_K D vwCl (tyA cy) s) (hP : va_P D vwCl (X ++ mB cy a τ) H) (hdg : decode cc pc = .ok (.getfield 47, 3)) (kk : W p l e R s m args below meth c H locs cells slots Q (F0 m (pc + 3) ls (.ref (a 15) :: rest))) : W p l e R s m args below meth c H locs cells slots Q (F0 m pc ls (.ref (a 0) :: rest)) :=
  va_get S.1 S.2.1 S.2.2.2.2 (fun w h => List.mem_cons_of_mem _ (inX3 w h)) S.2.2.2.1 hK hP (X.length + 0) mw_obj rfl 15 (by decide) (S.2.2.2.2 _ (List.mem_cons_of_mem _ wm_498)) (fun _ h => h) rfl hdg kk
theorem mz_flightTells {j : Nat} {v : Int32} : (X ++ mB cy a τ).set (X.length + 13) (a 15, .inl (cy 0, 4096, .inl (upd (τ 15) j v))) = X ++ mB cy a (mS 15 j v τ) := by rw [List.set_append_right _ _ (Nat.le_add_right _ _), Nat.add_sub_cancel_left]; rfl
theorem ma_flightTells {own : String} {Ts : List Cond} (S : CallFix p m c cc nL s args Ts own) (hK : va_K D vwCl (tyA cy) s) (hP : va_P D vwCl (X ++ mB cy a τ) H) {j : Nat} (hj : j < 4096) (hdg : decode cc pc = .ok (.iaload, 1)) (kk : W p l e R s m args below meth c H locs cells slots Q (F0 m (pc + 1) ls (.int (τ 15 j) :: rest))) : W p l e R s m args below meth c H locs cells slots Q (F0 m pc ls (.int (nI j) :: .ref (a 15) :: rest)) :=
  k_iald S hK hP (t0 := 0) mw_flightTells rfl hj (by decide) hdg kk
theorem ms_flightTells {own : String} {Ts : List Cond} {v : Int32} (S : CallFix p m c cc nL s args Ts own) (hK : va_K D vwCl (tyA cy) s) (hP : va_P D vwCl (X ++ mB cy a τ) H) (hD : va_D A (X ++ mB cy a τ)) (hS : va_S A s.heap H locs) {j : Nat} (hj : j < 4096) (hdg : decode cc pc = .ok (.iastore, 1)) (kk : ∀ (H1 : Heap) (locs1 : List Loc), va_P D vwCl (X ++ mB cy a (mS 15 j v τ)) H1 → va_D A (X ++ mB cy a (mS 15 j v τ)) → va_S A s.heap H1 locs1 → W p l e R s m args below meth c H1 locs1 cells slots Q (F0 m (pc + 1) ls rest)) : W p l e R s m args below meth c H locs cells slots Q (F0 m pc ls (.int v :: .int (nI j) :: .ref (a 15) :: rest)) :=
  k_iast S hK hP hD hS (t0 := 0) mw_flightTells rfl hj (by decide) mz_flightTells hdg kk
theorem mf_packets (S : CallFix p m c cc nL s args (w0 :: gw) RX3) (hK : va_K D vwCl (tyA cy) s) (hP : va_P D vwCl (X ++ mB cy a τ) H) (hdg : decode cc pc = .ok (.getfield 107, 3)) (kk : W p l e R s m args below meth c H locs cells slots Q (F0 m (pc + 3) ls (.int (τ 0 16) :: rest))) : W p l e R s m args below meth c H locs cells slots Q (F0 m pc ls (.ref (a 0) :: rest)) :=
  va_get S.1 S.2.1 S.2.2.2.2 (fun w h => List.mem_cons_of_mem _ (inX3 w h)) S.2.2.2.1 hK hP (X.length + 0) mw_obj rfl 16 (by decide) (S.2.2.2.2 _ (List.mem_cons_of_mem _ wm_499)) (fun _ h => h) rfl hdg kk
theorem mz_packets {v : Int32} : (X ++ mB cy a τ).set (X.length + 0) (a 0, .inr (3, [.int (τ 0 0), .int (τ 0 1), .ref (a 2), .ref (a 3), .int (τ 0 4), .ref (a 5), .ref (a 6), .ref (a 7), .ref (a 8), .ref (a 9), .ref (a 10), .ref (a 11), .ref (a 12), .ref (a 13), .ref (a 14), .ref (a 15), .int v, .ref (a 17), .ref (a 18), .ref (a 19), .ref (a 20), .ref (a 21), .ref (a 22), .ref (a 23), .ref (a 24), .ref (a 25), .ref (a 26)])) = X ++ mB cy a (mS 0 16 v τ) := by rw [List.set_append_right _ _ (Nat.le_add_right _ _), Nat.add_sub_cancel_left]; rfl
theorem mp_packets {v : Int32} (S : CallFix p m c cc nL s args (w0 :: gw) RX3) (hK : va_K D vwCl (tyA cy) s) (hP : va_P D vwCl (X ++ mB cy a τ) H) (hD : va_D A (X ++ mB cy a τ)) (hS : va_S A s.heap H locs) (hdg : decode cc pc = .ok (.putfield 107, 3)) (kk : ∀ (H1 : Heap) (locs1 : List Loc), va_P D vwCl (X ++ mB cy a (mS 0 16 v τ)) H1 → va_D A (X ++ mB cy a (mS 0 16 v τ)) → va_S A s.heap H1 locs1 → W p l e R s m args below meth c H1 locs1 cells slots Q (F0 m (pc + 3) ls rest)) : W p l e R s m args below meth c H locs cells slots Q (F0 m pc ls (.int v :: .ref (a 0) :: rest)) :=
  va_put (ty := .int) S.1 S.2.1 S.2.2.2.2 (fun w h => List.mem_cons_of_mem _ (inX3 w h)) tyX3 tyX3_ok nmX3 S.2.2.2.1 hK hP hD hS (X.length + 0) mw_obj rfl 16 (by decide) (S.2.2.2.2 _ (List.mem_cons_of_mem _ wm_499)) (fun _ h => h) rfl (by decide +kernel) rfl rfl (Nat.le_of_ble_eq_true rfl) hdg (fun H1 locs1 hP1 hD1 hS1 => kk H1 locs1 (by rw [← mz_packets]; exact hP1) (by rw [← mz_packets]; exact hD1) hS1)
theorem mf_targets (S : CallFix p m c cc nL s args (w0 :: gw) RX3) (hK : va_K D vwCl (tyA cy) s) (hP : va_P D vwCl (X ++ mB cy a τ) H) (hdg : decode cc pc = .ok (.getfield 50, 3)) (kk : W p l e R s m args below meth c H locs cells slots Q (F0 m (pc + 3) ls (.ref (a 17) :: rest))) : W p l e R s m args below meth c H locs cells slots Q (F0 m pc ls (.ref (a 0) :: rest)) :=
  va_get S.1 S.2.1 S.2.2.2.2 (fun w h => List.mem_cons_of_mem _ (inX3 w h)) S.2.2.2.1 hK hP (X.length + 0) mw_obj rfl 17 (by decide) (S.2.2.2.2 _ (List.mem_cons_of_mem _ wm_500)) (fun _ h => h) rfl hdg kk
theorem mz_targets {j : Nat} {v : Int32} : (X ++ mB cy a τ).set (X.length + 14) (a 17, .inl (cy 0, 20, .inl (upd (τ 17) j v))) = X ++ mB cy a (mS 17 j v τ) := by rw [List.set_append_right _ _ (Nat.le_add_right _ _), Nat.add_sub_cancel_left]; rfl
theorem ma_targets {own : String} {Ts : List Cond} (S : CallFix p m c cc nL s args Ts own) (hK : va_K D vwCl (tyA cy) s) (hP : va_P D vwCl (X ++ mB cy a τ) H) {j : Nat} (hj : j < 20) (hdg : decode cc pc = .ok (.iaload, 1)) (kk : W p l e R s m args below meth c H locs cells slots Q (F0 m (pc + 1) ls (.int (τ 17 j) :: rest))) : W p l e R s m args below meth c H locs cells slots Q (F0 m pc ls (.int (nI j) :: .ref (a 17) :: rest)) :=
  k_iald S hK hP (t0 := 0) mw_targets rfl hj (by decide) hdg kk
theorem ms_targets {own : String} {Ts : List Cond} {v : Int32} (S : CallFix p m c cc nL s args Ts own) (hK : va_K D vwCl (tyA cy) s) (hP : va_P D vwCl (X ++ mB cy a τ) H) (hD : va_D A (X ++ mB cy a τ)) (hS : va_S A s.heap H locs) {j : Nat} (hj : j < 20) (hdg : decode cc pc = .ok (.iastore, 1)) (kk : ∀ (H1 : Heap) (locs1 : List Loc), va_P D vwCl (X ++ mB cy a (mS 17 j v τ)) H1 → va_D A (X ++ mB cy a (mS 17 j v τ)) → va_S A s.heap H1 locs1 → W p l e R s m args below meth c H1 locs1 cells slots Q (F0 m (pc + 1) ls rest)) : W p l e R s m args below meth c H locs cells slots Q (F0 m pc ls (.int v :: .int (nI j) :: .ref (a 17) :: rest)) :=
  k_iast S hK hP hD hS (t0 := 0) mw_targets rfl hj (by decide) mz_targets hdg kk
theorem mf_lives (S : CallFix p m c cc nL s args (w0 :: gw) RX3) (hK : va_K D vwCl (tyA cy) s) (hP : va_P D vwCl (X ++ mB cy a τ) H) (hdg : decode cc pc = .ok (.getfield 53, 3)) (kk : W p l e R s m args below meth c H locs cells slots Q (F0 m (pc + 3) ls (.ref (a 18) :: rest))) : W p l e R s m args below meth c H locs cells slots Q (F0 m pc ls (.ref (a 0) :: rest)) :=
  va_get S.1 S.2.1 S.2.2.2.2 (fun w h => List.mem_cons_of_mem _ (inX3 w h)) S.2.2.2.1 hK hP (X.length + 0) mw_obj rfl 18 (by decide) (S.2.2.2.2 _ (List.mem_cons_of_mem _ wm_501)) (fun _ h => h) rfl hdg kk
theorem mz_lives {j : Nat} {v : Int32} : (X ++ mB cy a τ).set (X.length + 15) (a 18, .inl (cy 0, 20, .inl (upd (τ 18) j v))) = X ++ mB cy a (mS 18 j v τ) := by rw [List.set_append_right _ _ (Nat.le_add_right _ _), Nat.add_sub_cancel_left]; rfl
theorem ma_lives {own : String} {Ts : List Cond} (S : CallFix p m c cc nL s args Ts own) (hK : va_K D vwCl (tyA cy) s) (hP : va_P D vwCl (X ++ mB cy a τ) H) {j : Nat} (hj : j < 20) (hdg : decode cc pc = .ok (.iaload, 1)) (kk : W p l e R s m args below meth c H locs cells slots Q (F0 m (pc + 1) ls (.int (τ 18 j) :: rest))) : W p l e R s m args below meth c H locs cells slots Q (F0 m pc ls (.int (nI j) :: .ref (a 18) :: rest)) :=
  k_iald S hK hP (t0 := 0) mw_lives rfl hj (by decide) hdg kk
theorem ms_lives {own : String} {Ts : List Cond} {v : Int32} (S : CallFix p m c cc nL s args Ts own) (hK : va_K D vwCl (tyA cy) s) (hP : va_P D vwCl (X ++ mB cy a τ) H) (hD : va_D A (X ++ mB cy a τ)) (hS : va_S A s.heap H locs) {j : Nat} (hj : j < 20) (hdg : decode cc pc = .ok (.iastore, 1)) (kk : ∀ (H1 : Heap) (locs1 : List Loc), va_P D vwCl (X ++ mB cy a (mS 18 j v τ)) H1 → va_D A (X ++ mB cy a (mS 18 j v τ)) → va_S A s.heap H1 locs1 → W p l e R s m args below meth c H1 locs1 cells slots Q (F0 m (pc + 1) ls rest)) : W p l e R s m args below meth c H locs cells slots Q (F0 m pc ls (.int v :: .int (nI j) :: .ref (a 18) :: rest)) :=
  k_iast S hK hP hD hS (t0 := 0) mw_lives rfl hj (by decide) mz_lives hdg kk
theorem mf_states (S : CallFix p m c cc nL s args (w0 :: gw) RX3) (hK : va_K D vwCl (tyA cy) s) (hP : va_P D vwCl (X ++ mB cy a τ) H) (hdg : decode cc pc = .ok (.getfield 56, 3)) (kk : W p l e R s m args below meth c H locs cells slots Q (F0 m (pc + 3) ls (.ref (a 19) :: rest))) : W p l e R s m args below meth c H locs cells slots Q (F0 m pc ls (.ref (a 0) :: rest)) :=
  va_get S.1 S.2.1 S.2.2.2.2 (fun w h => List.mem_cons_of_mem _ (inX3 w h)) S.2.2.2.1 hK hP (X.length + 0) mw_obj rfl 19 (by decide) (S.2.2.2.2 _ (List.mem_cons_of_mem _ wm_502)) (fun _ h => h) rfl hdg kk
theorem mz_states {j : Nat} {v : Int32} : (X ++ mB cy a τ).set (X.length + 16) (a 19, .inl (cy 0, 20, .inl (upd (τ 19) j v))) = X ++ mB cy a (mS 19 j v τ) := by rw [List.set_append_right _ _ (Nat.le_add_right _ _), Nat.add_sub_cancel_left]; rfl
theorem ma_states {own : String} {Ts : List Cond} (S : CallFix p m c cc nL s args Ts own) (hK : va_K D vwCl (tyA cy) s) (hP : va_P D vwCl (X ++ mB cy a τ) H) {j : Nat} (hj : j < 20) (hdg : decode cc pc = .ok (.iaload, 1)) (kk : W p l e R s m args below meth c H locs cells slots Q (F0 m (pc + 1) ls (.int (τ 19 j) :: rest))) : W p l e R s m args below meth c H locs cells slots Q (F0 m pc ls (.int (nI j) :: .ref (a 19) :: rest)) :=
  k_iald S hK hP (t0 := 0) mw_states rfl hj (by decide) hdg kk
theorem ms_states {own : String} {Ts : List Cond} {v : Int32} (S : CallFix p m c cc nL s args Ts own) (hK : va_K D vwCl (tyA cy) s) (hP : va_P D vwCl (X ++ mB cy a τ) H) (hD : va_D A (X ++ mB cy a τ)) (hS : va_S A s.heap H locs) {j : Nat} (hj : j < 20) (hdg : decode cc pc = .ok (.iastore, 1)) (kk : ∀ (H1 : Heap) (locs1 : List Loc), va_P D vwCl (X ++ mB cy a (mS 19 j v τ)) H1 → va_D A (X ++ mB cy a (mS 19 j v τ)) → va_S A s.heap H1 locs1 → W p l e R s m args below meth c H1 locs1 cells slots Q (F0 m (pc + 1) ls rest)) : W p l e R s m args below meth c H locs cells slots Q (F0 m pc ls (.int v :: .int (nI j) :: .ref (a 19) :: rest)) :=
  k_iast S hK hP hD hS (t0 := 0) mw_states rfl hj (by decide) mz_states hdg kk
theorem mf_comesFrom (S : CallFix p m c cc nL s args (w0 :: gw) RX3) (hK : va_K D vwCl (tyA cy) s) (hP : va_P D vwCl (X ++ mB cy a τ) H) (hdg : decode cc pc = .ok (.getfield 59, 3)) (kk : W p l e R s m args below meth c H locs cells slots Q (F0 m (pc + 3) ls (.ref (a 20) :: rest))) : W p l e R s m args below meth c H locs cells slots Q (F0 m pc ls (.ref (a 0) :: rest)) :=
  va_get S.1 S.2.1 S.2.2.2.2 (fun w h => List.mem_cons_of_mem _ (inX3 w h)) S.2.2.2.1 hK hP (X.length + 0) mw_obj rfl 20 (by decide) (S.2.2.2.2 _ (List.mem_cons_of_mem _ wm_503)) (fun _ h => h) rfl hdg kk
theorem mz_comesFrom {j : Nat} {v : Int32} : (X ++ mB cy a τ).set (X.length + 17) (a 20, .inl (cy 0, 20, .inl (upd (τ 20) j v))) = X ++ mB cy a (mS 20 j v τ) := by rw [List.set_append_right _ _ (Nat.le_add_right _ _), Nat.add_sub_cancel_left]; rfl
theorem ma_comesFrom {own : String} {Ts : List Cond} (S : CallFix p m c cc nL s args Ts own) (hK : va_K D vwCl (tyA cy) s) (hP : va_P D vwCl (X ++ mB cy a τ) H) {j : Nat} (hj : j < 20) (hdg : decode cc pc = .ok (.iaload, 1)) (kk : W p l e R s m args below meth c H locs cells slots Q (F0 m (pc + 1) ls (.int (τ 20 j) :: rest))) : W p l e R s m args below meth c H locs cells slots Q (F0 m pc ls (.int (nI j) :: .ref (a 20) :: rest)) :=
  k_iald S hK hP (t0 := 0) mw_comesFrom rfl hj (by decide) hdg kk
theorem ms_comesFrom {own : String} {Ts : List Cond} {v : Int32} (S : CallFix p m c cc nL s args Ts own) (hK : va_K D vwCl (tyA cy) s) (hP : va_P D vwCl (X ++ mB cy a τ) H) (hD : va_D A (X ++ mB cy a τ)) (hS : va_S A s.heap H locs) {j : Nat} (hj : j < 20) (hdg : decode cc pc = .ok (.iastore, 1)) (kk : ∀ (H1 : Heap) (locs1 : List Loc), va_P D vwCl (X ++ mB cy a (mS 20 j v τ)) H1 → va_D A (X ++ mB cy a (mS 20 j v τ)) → va_S A s.heap H1 locs1 → W p l e R s m args below meth c H1 locs1 cells slots Q (F0 m (pc + 1) ls rest)) : W p l e R s m args below meth c H locs cells slots Q (F0 m pc ls (.int v :: .int (nI j) :: .ref (a 20) :: rest)) :=
  k_iast S hK hP hD hS (t0 := 0) mw_comesFrom rfl hj (by decide) mz_comesFrom hdg kk
theorem mf_comesTo (S : CallFix p m c cc nL s args (w0 :: gw) RX3) (hK : va_K D vwCl (tyA cy) s) (hP : va_P D vwCl (X ++ mB cy a τ) H) (hdg : decode cc pc = .ok (.getfield 62, 3)) (kk : W p l e R s m args below meth c H locs cells slots Q (F0 m (pc + 3) ls (.ref (a 21) :: rest))) : W p l e R s m args below meth c H locs cells slots Q (F0 m pc ls (.ref (a 0) :: rest)) :=
  va_get S.1 S.2.1 S.2.2.2.2 (fun w h => List.mem_cons_of_mem _ (inX3 w h)) S.2.2.2.1 hK hP (X.length + 0) mw_obj rfl 21 (by decide) (S.2.2.2.2 _ (List.mem_cons_of_mem _ wm_504)) (fun _ h => h) rfl hdg kk
theorem mz_comesTo {j : Nat} {v : Int32} : (X ++ mB cy a τ).set (X.length + 18) (a 21, .inl (cy 0, 20, .inl (upd (τ 21) j v))) = X ++ mB cy a (mS 21 j v τ) := by rw [List.set_append_right _ _ (Nat.le_add_right _ _), Nat.add_sub_cancel_left]; rfl
theorem ma_comesTo {own : String} {Ts : List Cond} (S : CallFix p m c cc nL s args Ts own) (hK : va_K D vwCl (tyA cy) s) (hP : va_P D vwCl (X ++ mB cy a τ) H) {j : Nat} (hj : j < 20) (hdg : decode cc pc = .ok (.iaload, 1)) (kk : W p l e R s m args below meth c H locs cells slots Q (F0 m (pc + 1) ls (.int (τ 21 j) :: rest))) : W p l e R s m args below meth c H locs cells slots Q (F0 m pc ls (.int (nI j) :: .ref (a 21) :: rest)) :=
  k_iald S hK hP (t0 := 0) mw_comesTo rfl hj (by decide) hdg kk
theorem ms_comesTo {own : String} {Ts : List Cond} {v : Int32} (S : CallFix p m c cc nL s args Ts own) (hK : va_K D vwCl (tyA cy) s) (hP : va_P D vwCl (X ++ mB cy a τ) H) (hD : va_D A (X ++ mB cy a τ)) (hS : va_S A s.heap H locs) {j : Nat} (hj : j < 20) (hdg : decode cc pc = .ok (.iastore, 1)) (kk : ∀ (H1 : Heap) (locs1 : List Loc), va_P D vwCl (X ++ mB cy a (mS 21 j v τ)) H1 → va_D A (X ++ mB cy a (mS 21 j v τ)) → va_S A s.heap H1 locs1 → W p l e R s m args below meth c H1 locs1 cells slots Q (F0 m (pc + 1) ls rest)) : W p l e R s m args below meth c H locs cells slots Q (F0 m pc ls (.int v :: .int (nI j) :: .ref (a 21) :: rest)) :=
  k_iast S hK hP hD hS (t0 := 0) mw_comesTo rfl hj (by decide) mz_comesTo hdg kk
theorem mf_comesAt (S : CallFix p m c cc nL s args (w0 :: gw) RX3) (hK : va_K D vwCl (tyA cy) s) (hP : va_P D vwCl (X ++ mB cy a τ) H) (hdg : decode cc pc = .ok (.getfield 65, 3)) (kk : W p l e R s m args below meth c H locs cells slots Q (F0 m (pc + 3) ls (.ref (a 22) :: rest))) : W p l e R s m args below meth c H locs cells slots Q (F0 m pc ls (.ref (a 0) :: rest)) :=
  va_get S.1 S.2.1 S.2.2.2.2 (fun w h => List.mem_cons_of_mem _ (inX3 w h)) S.2.2.2.1 hK hP (X.length + 0) mw_obj rfl 22 (by decide) (S.2.2.2.2 _ (List.mem_cons_of_mem _ wm_505)) (fun _ h => h) rfl hdg kk
theorem mz_comesAt {j : Nat} {v : Int32} : (X ++ mB cy a τ).set (X.length + 19) (a 22, .inl (cy 0, 20, .inl (upd (τ 22) j v))) = X ++ mB cy a (mS 22 j v τ) := by rw [List.set_append_right _ _ (Nat.le_add_right _ _), Nat.add_sub_cancel_left]; rfl
theorem ma_comesAt {own : String} {Ts : List Cond} (S : CallFix p m c cc nL s args Ts own) (hK : va_K D vwCl (tyA cy) s) (hP : va_P D vwCl (X ++ mB cy a τ) H) {j : Nat} (hj : j < 20) (hdg : decode cc pc = .ok (.iaload, 1)) (kk : W p l e R s m args below meth c H locs cells slots Q (F0 m (pc + 1) ls (.int (τ 22 j) :: rest))) : W p l e R s m args below meth c H locs cells slots Q (F0 m pc ls (.int (nI j) :: .ref (a 22) :: rest)) :=
  k_iald S hK hP (t0 := 0) mw_comesAt rfl hj (by decide) hdg kk
theorem ms_comesAt {own : String} {Ts : List Cond} {v : Int32} (S : CallFix p m c cc nL s args Ts own) (hK : va_K D vwCl (tyA cy) s) (hP : va_P D vwCl (X ++ mB cy a τ) H) (hD : va_D A (X ++ mB cy a τ)) (hS : va_S A s.heap H locs) {j : Nat} (hj : j < 20) (hdg : decode cc pc = .ok (.iastore, 1)) (kk : ∀ (H1 : Heap) (locs1 : List Loc), va_P D vwCl (X ++ mB cy a (mS 22 j v τ)) H1 → va_D A (X ++ mB cy a (mS 22 j v τ)) → va_S A s.heap H1 locs1 → W p l e R s m args below meth c H1 locs1 cells slots Q (F0 m (pc + 1) ls rest)) : W p l e R s m args below meth c H locs cells slots Q (F0 m pc ls (.int v :: .int (nI j) :: .ref (a 22) :: rest)) :=
  k_iast S hK hP hD hS (t0 := 0) mw_comesAt rfl hj (by decide) mz_comesAt hdg kk
theorem mf_traceCounts (S : CallFix p m c cc nL s args (w0 :: gw) RX3) (hK : va_K D vwCl (tyA cy) s) (hP : va_P D vwCl (X ++ mB cy a τ) H) (hdg : decode cc pc = .ok (.getfield 68, 3)) (kk : W p l e R s m args below meth c H locs cells slots Q (F0 m (pc + 3) ls (.ref (a 23) :: rest))) : W p l e R s m args below meth c H locs cells slots Q (F0 m pc ls (.ref (a 0) :: rest)) :=
  va_get S.1 S.2.1 S.2.2.2.2 (fun w h => List.mem_cons_of_mem _ (inX3 w h)) S.2.2.2.1 hK hP (X.length + 0) mw_obj rfl 23 (by decide) (S.2.2.2.2 _ (List.mem_cons_of_mem _ wm_506)) (fun _ h => h) rfl hdg kk
theorem mz_traceCounts {j : Nat} {v : Int32} : (X ++ mB cy a τ).set (X.length + 20) (a 23, .inl (cy 0, 20, .inl (upd (τ 23) j v))) = X ++ mB cy a (mS 23 j v τ) := by rw [List.set_append_right _ _ (Nat.le_add_right _ _), Nat.add_sub_cancel_left]; rfl
theorem ma_traceCounts {own : String} {Ts : List Cond} (S : CallFix p m c cc nL s args Ts own) (hK : va_K D vwCl (tyA cy) s) (hP : va_P D vwCl (X ++ mB cy a τ) H) {j : Nat} (hj : j < 20) (hdg : decode cc pc = .ok (.iaload, 1)) (kk : W p l e R s m args below meth c H locs cells slots Q (F0 m (pc + 1) ls (.int (τ 23 j) :: rest))) : W p l e R s m args below meth c H locs cells slots Q (F0 m pc ls (.int (nI j) :: .ref (a 23) :: rest)) :=
  k_iald S hK hP (t0 := 0) mw_traceCounts rfl hj (by decide) hdg kk
theorem ms_traceCounts {own : String} {Ts : List Cond} {v : Int32} (S : CallFix p m c cc nL s args Ts own) (hK : va_K D vwCl (tyA cy) s) (hP : va_P D vwCl (X ++ mB cy a τ) H) (hD : va_D A (X ++ mB cy a τ)) (hS : va_S A s.heap H locs) {j : Nat} (hj : j < 20) (hdg : decode cc pc = .ok (.iastore, 1)) (kk : ∀ (H1 : Heap) (locs1 : List Loc), va_P D vwCl (X ++ mB cy a (mS 23 j v τ)) H1 → va_D A (X ++ mB cy a (mS 23 j v τ)) → va_S A s.heap H1 locs1 → W p l e R s m args below meth c H1 locs1 cells slots Q (F0 m (pc + 1) ls rest)) : W p l e R s m args below meth c H locs cells slots Q (F0 m pc ls (.int v :: .int (nI j) :: .ref (a 23) :: rest)) :=
  k_iast S hK hP hD hS (t0 := 0) mw_traceCounts rfl hj (by decide) mz_traceCounts hdg kk
theorem mf_traces (S : CallFix p m c cc nL s args (w0 :: gw) RX3) (hK : va_K D vwCl (tyA cy) s) (hP : va_P D vwCl (X ++ mB cy a τ) H) (hdg : decode cc pc = .ok (.getfield 71, 3)) (kk : W p l e R s m args below meth c H locs cells slots Q (F0 m (pc + 3) ls (.ref (a 24) :: rest))) : W p l e R s m args below meth c H locs cells slots Q (F0 m pc ls (.ref (a 0) :: rest)) :=
  va_get S.1 S.2.1 S.2.2.2.2 (fun w h => List.mem_cons_of_mem _ (inX3 w h)) S.2.2.2.1 hK hP (X.length + 0) mw_obj rfl 24 (by decide) (S.2.2.2.2 _ (List.mem_cons_of_mem _ wm_507)) (fun _ h => h) rfl hdg kk
theorem mz_traces {j : Nat} {v : Int32} : (X ++ mB cy a τ).set (X.length + 21) (a 24, .inl (cy 0, 800, .inl (upd (τ 24) j v))) = X ++ mB cy a (mS 24 j v τ) := by rw [List.set_append_right _ _ (Nat.le_add_right _ _), Nat.add_sub_cancel_left]; rfl
theorem ma_traces {own : String} {Ts : List Cond} (S : CallFix p m c cc nL s args Ts own) (hK : va_K D vwCl (tyA cy) s) (hP : va_P D vwCl (X ++ mB cy a τ) H) {j : Nat} (hj : j < 800) (hdg : decode cc pc = .ok (.iaload, 1)) (kk : W p l e R s m args below meth c H locs cells slots Q (F0 m (pc + 1) ls (.int (τ 24 j) :: rest))) : W p l e R s m args below meth c H locs cells slots Q (F0 m pc ls (.int (nI j) :: .ref (a 24) :: rest)) :=
  k_iald S hK hP (t0 := 0) mw_traces rfl hj (by decide) hdg kk
theorem ms_traces {own : String} {Ts : List Cond} {v : Int32} (S : CallFix p m c cc nL s args Ts own) (hK : va_K D vwCl (tyA cy) s) (hP : va_P D vwCl (X ++ mB cy a τ) H) (hD : va_D A (X ++ mB cy a τ)) (hS : va_S A s.heap H locs) {j : Nat} (hj : j < 800) (hdg : decode cc pc = .ok (.iastore, 1)) (kk : ∀ (H1 : Heap) (locs1 : List Loc), va_P D vwCl (X ++ mB cy a (mS 24 j v τ)) H1 → va_D A (X ++ mB cy a (mS 24 j v τ)) → va_S A s.heap H1 locs1 → W p l e R s m args below meth c H1 locs1 cells slots Q (F0 m (pc + 1) ls rest)) : W p l e R s m args below meth c H locs cells slots Q (F0 m pc ls (.int v :: .int (nI j) :: .ref (a 24) :: rest)) :=
  k_iast S hK hP hD hS (t0 := 0) mw_traces rfl hj (by decide) mz_traces hdg kk
theorem mf_far (S : CallFix p m c cc nL s args (w0 :: gw) RX3) (hK : va_K D vwCl (tyA cy) s) (hP : va_P D vwCl (X ++ mB cy a τ) H) (hdg : decode cc pc = .ok (.getfield 74, 3)) (kk : W p l e R s m args below meth c H locs cells slots Q (F0 m (pc + 3) ls (.ref (a 25) :: rest))) : W p l e R s m args below meth c H locs cells slots Q (F0 m pc ls (.ref (a 0) :: rest)) :=
  va_get S.1 S.2.1 S.2.2.2.2 (fun w h => List.mem_cons_of_mem _ (inX3 w h)) S.2.2.2.1 hK hP (X.length + 0) mw_obj rfl 25 (by decide) (S.2.2.2.2 _ (List.mem_cons_of_mem _ wm_508)) (fun _ h => h) rfl hdg kk
theorem mz_far {j : Nat} {v : Int32} : (X ++ mB cy a τ).set (X.length + 22) (a 25, .inl (cy 0, 8, .inl (upd (τ 25) j v))) = X ++ mB cy a (mS 25 j v τ) := by rw [List.set_append_right _ _ (Nat.le_add_right _ _), Nat.add_sub_cancel_left]; rfl
theorem ma_far {own : String} {Ts : List Cond} (S : CallFix p m c cc nL s args Ts own) (hK : va_K D vwCl (tyA cy) s) (hP : va_P D vwCl (X ++ mB cy a τ) H) {j : Nat} (hj : j < 8) (hdg : decode cc pc = .ok (.iaload, 1)) (kk : W p l e R s m args below meth c H locs cells slots Q (F0 m (pc + 1) ls (.int (τ 25 j) :: rest))) : W p l e R s m args below meth c H locs cells slots Q (F0 m pc ls (.int (nI j) :: .ref (a 25) :: rest)) :=
  k_iald S hK hP (t0 := 0) mw_far rfl hj (by decide) hdg kk
theorem ms_far {own : String} {Ts : List Cond} {v : Int32} (S : CallFix p m c cc nL s args Ts own) (hK : va_K D vwCl (tyA cy) s) (hP : va_P D vwCl (X ++ mB cy a τ) H) (hD : va_D A (X ++ mB cy a τ)) (hS : va_S A s.heap H locs) {j : Nat} (hj : j < 8) (hdg : decode cc pc = .ok (.iastore, 1)) (kk : ∀ (H1 : Heap) (locs1 : List Loc), va_P D vwCl (X ++ mB cy a (mS 25 j v τ)) H1 → va_D A (X ++ mB cy a (mS 25 j v τ)) → va_S A s.heap H1 locs1 → W p l e R s m args below meth c H1 locs1 cells slots Q (F0 m (pc + 1) ls rest)) : W p l e R s m args below meth c H locs cells slots Q (F0 m pc ls (.int v :: .int (nI j) :: .ref (a 25) :: rest)) :=
  k_iast S hK hP hD hS (t0 := 0) mw_far rfl hj (by decide) mz_far hdg kk
theorem mf_together (S : CallFix p m c cc nL s args (w0 :: gw) RX3) (hK : va_K D vwCl (tyA cy) s) (hP : va_P D vwCl (X ++ mB cy a τ) H) (hdg : decode cc pc = .ok (.getfield 77, 3)) (kk : W p l e R s m args below meth c H locs cells slots Q (F0 m (pc + 3) ls (.ref (a 26) :: rest))) : W p l e R s m args below meth c H locs cells slots Q (F0 m pc ls (.ref (a 0) :: rest)) :=
  va_get S.1 S.2.1 S.2.2.2.2 (fun w h => List.mem_cons_of_mem _ (inX3 w h)) S.2.2.2.1 hK hP (X.length + 0) mw_obj rfl 26 (by decide) (S.2.2.2.2 _ (List.mem_cons_of_mem _ wm_509)) (fun _ h => h) rfl hdg kk
theorem mz_together {j : Nat} {v : Int32} : (X ++ mB cy a τ).set (X.length + 23) (a 26, .inl (cy 2, 64, .inl (upd (τ 26) j v))) = X ++ mB cy a (mS 26 j v τ) := by rw [List.set_append_right _ _ (Nat.le_add_right _ _), Nat.add_sub_cancel_left]; rfl
theorem ma_together {own : String} {Ts : List Cond} (S : CallFix p m c cc nL s args Ts own) (hK : va_K D vwCl (tyA cy) s) (hP : va_P D vwCl (X ++ mB cy a τ) H) {j : Nat} (hj : j < 64) (hdg : decode cc pc = .ok (.baload, 1)) (kk : W p l e R s m args below meth c H locs cells slots Q (F0 m (pc + 1) ls (.int (τ 26 j) :: rest))) : W p l e R s m args below meth c H locs cells slots Q (F0 m pc ls (.int (nI j) :: .ref (a 26) :: rest)) :=
  k_zald S hK hP (t0 := 2) mw_together rfl hj (by decide) hdg kk
theorem ms_together {own : String} {Ts : List Cond} {v : Int32} (S : CallFix p m c cc nL s args Ts own) (hK : va_K D vwCl (tyA cy) s) (hP : va_P D vwCl (X ++ mB cy a τ) H) (hD : va_D A (X ++ mB cy a τ)) (hS : va_S A s.heap H locs) {j : Nat} (hj : j < 64) (hv : vp_nar .boolean v = v) (hdg : decode cc pc = .ok (.bastore, 1)) (kk : ∀ (H1 : Heap) (locs1 : List Loc), va_P D vwCl (X ++ mB cy a (mS 26 j v τ)) H1 → va_D A (X ++ mB cy a (mS 26 j v τ)) → va_S A s.heap H1 locs1 → W p l e R s m args below meth c H1 locs1 cells slots Q (F0 m (pc + 1) ls rest)) : W p l e R s m args below meth c H locs cells slots Q (F0 m pc ls (.int v :: .int (nI j) :: .ref (a 26) :: rest)) :=
  k_zast S hK hP hD hS (t0 := 2) mw_together rfl hj (by decide) hv mz_together hdg kk
theorem mrecv (hK : va_K D vwCl (tyA cy) s) (hP : va_P D vwCl (X ++ mB cy a τ) H) : ∃ cell : Cell, H[a 0]? = some cell ∧ cell.vm.isStatics = false ∧ s.vm.findClass RX3 = some cell.cls := va_recv hK hP (ci := 3) (q := (RX3, TX3, 27)) (q0 := X.length + 0) rfl mw_obj
end MW
end
section
/-! PURE FUNCTIONS OF THE CLASS (first batch) -/
def itr {α : Type} (f : Nat → α → α) : Nat → Nat → α → α
  | 0, _, s => s
  | n + 1, i, s => itr f n (i + 1) (f i s)
theorem itr_step {α : Type} {f : Nat → α → α} {n i : Nat} {s s' r : α} (h : itr f (n + 1) i s = r) (e : f i s = s') : itr f n (i + 1) s' = r := by rw [← e]; exact h
def isN (x : Int32) : Bool := if x < 0 then false else if nI 8 ≤ x then false else true
theorem isN_of {x : Int32} (h : isN x = true) : ∃ j : Nat, j < 8 ∧ x = nI j := by
  unfold isN at h
  by_cases h1 : x < 0
  · rw [if_pos h1] at h; cases h
  · rw [if_neg h1] at h
    by_cases h2 : nI 8 ≤ x
    · rw [if_pos h2] at h; cases h
    · rcases pk_ix x (n := 8) (by decide) with h3 | h3 | ⟨j, hj, rfl⟩
      · exact absurd h3 h1
      · exact absurd h3 h2
      · exact ⟨j, hj, rfl⟩
def pWrite (nb bb cb cn row : Nat) (num bo : Int32) (co : Int64) (σ : CS) : CS :=
  if σ.1 nb row = 0 then sJ cb row co (sI bb row bo (sI nb row num (sI 0 cn (σ.1 0 cn + nI 1) σ))) else sJ cb row co (sI bb row bo (sI nb row num σ))
def pClear (nb cb cn row : Nat) (σ : CS) : CS :=
  if σ.1 nb row ≤ 0 then sJ cb row 0 (sI nb row (nI 0) σ) else sJ cb row 0 (sI nb row (nI 0) (sI 0 cn (σ.1 0 cn - nI 1) σ))
def costF (co : Int64) (w : Nat) : Int32 := (co >>> ((nI (6 * w)).toInt64 &&& 63)).toInt32 &&& nI 63
def packF (x : Int32) (w : Nat) : Int64 := x.toInt64 <<< ((nI (6 * w)).toInt64 &&& 63)
def fCnt (co : Int64) (i : Nat) (x : Int32) : Int32 := if costF co i ≤ 0 then x else x + Int32.ofInt 1
def cntF (co : Int64) : Int32 := itr (fCnt co) 8 0 (nI 0)
def hasL (σ : CS) (x y : Int32) : Bool := if isN x = true then if isN y = true then if σ.1 3 (x.toNatClampNeg * 8 + y.toNatClampNeg) ≤ 0 then false else true else false else false
def carr (σ : CS) (u v : Nat) : Bool := if σ.1 5 (u * 8 + v) = 0 then false else if σ.1 1 u = 0 then false else if σ.1 1 v = 0 then false else true
def fCosts (σ : CS) (u : Nat) (i : Nat) (x : Int64) : Int64 := if carr σ u i = true then x ||| packF (σ.1 3 (u * 8 + i)) i else x
def cCosts (σ : CS) (u : Nat) : Int64 := itr (fCosts σ u) 8 0 0
def cPutLink (u v : Nat) (x y : Int32) (σ : CS) : CS := sI 4 (u * 8 + v) y (sI 3 (u * 8 + v) x σ)
def cSendW (f t o : Nat) (σ : CS) : CS := pWrite 8 9 1 4 ((f * 8 + t) * 8 + o) (σ.1 6 (f * 8 + o)) (σ.1 7 (f * 8 + o)) (σ.2 0 (f * 8 + o)) σ
def cSendKnown (f t o : Nat) (σ : CS) : CS := if σ.1 6 (f * 8 + o) ≤ σ.1 8 ((f * 8 + t) * 8 + o) then σ else sI 10 ((f * 8 + t) * 8 + o) ((cSendW f t o σ).1 0 2 + (cSendW f t o σ).1 4 (f * 8 + t)) (cSendW f t o σ)
def cSendAll (f t : Nat) (σ : CS) : CS := itr (cSendKnown f t) 8 0 σ
def fSpread (u o : Nat) (x : Int32) (i : Nat) (σ : CS) : CS := if nI i = x then σ else if carr σ u i = true then cSendKnown u i o σ else σ
def cSpread (u o : Nat) (x : Int32) (σ : CS) : CS := itr (fSpread u o x) 8 0 σ
def tell1 (u : Nat) (σ : CS) : CS := sI 2 u (σ.1 2 u + nI 1) σ
def tell2 (u : Nat) (σ : CS) : CS := pWrite 6 7 0 3 (u * 8 + u) ((tell1 u σ).1 2 u) ((tell1 u σ).1 0 2) (cCosts (tell1 u σ) u) (tell1 u σ)
def cTell (u : Nat) (σ : CS) : CS := cSpread u u (-1) (tell2 u σ)
def cStep (σ : CS) (v f t : Nat) : Int32 := if costF (σ.2 0 (v * 8 + t)) f ≤ 0 then nI 0 else costF (σ.2 0 (v * 8 + f)) t
end
section
set_option maxHeartbeats 400000 in
set_option maxRecDepth 100000 in
theorem c_X1_write_known (l : Launch) (D : va_G) (cy : Nat → ClassId) (a : Nat → Nat) (X : va_W) (σ : CS) (row : Nat) (x : Int32) (y : Int32) (z : Int64) (hrow : row < 64) : MetV l yX1_write cX1_write 6 (kRm 0 0 0) D (tyA cy) nestC [.ref (a 6), .int (nI (row)), .int (x), .int (y), .long (z)] (X ++ cB cy a σ) (X ++ cB cy a (pWrite 6 7 0 3 row x y z σ)) 0 0 := by
  intro sz
  refine kmet (own := RX1) (by decide) rfl (Nat.le_of_ble_eq_true rfl) (fun p e s m args below meth c S hr hlk hK hN hP hD hsz hA hnm ls hl => ?_)
  have hS : va_S (va_A (X ++ cB cy a σ) sz) s.heap s.heap [] := va_S.rf
  have hl : lv_has ls 6 [(0, .ref (a 6)), (1, .int (nI (row))), (2, .int (x)), (3, .int (y)), (4, .long (z))] := hl
  refine lv_aload_n S.1 S.2.1 dX1_write_0 rfl (lv_at hl 0 rfl) ?_
  refine cf_known_number S hK hP dX1_write_1 ?_
  refine lv_iload_n S.1 S.2.1 dX1_write_4 rfl (lv_at hl 1 rfl) ?_
  refine ca_knNumber S hK hP (j := row) (by omega) dX1_write_5 ?_
  refine lv_if_ne (tgt := 19) S.1 S.2.1 dX1_write_6 (by decide) (fun c1 => ?_) (fun c1 => ?_)
  · refine lv_aload_n S.1 S.2.1 dX1_write_19 rfl (lv_at hl 0 rfl) ?_
    refine cf_known_number S hK hP dX1_write_20 ?_
    refine lv_iload_n S.1 S.2.1 dX1_write_23 rfl (lv_at hl 1 rfl) ?_
    refine lv_iload_n S.1 S.2.1 dX1_write_24 rfl (lv_at hl 2 rfl) ?_
    refine cs_knNumber S hK hP hD hS (j := row) (by omega) dX1_write_25 (fun H locs hP hD hS => ?_)
    refine lv_aload_n S.1 S.2.1 dX1_write_26 rfl (lv_at hl 0 rfl) ?_
    refine cf_known_born S hK hP dX1_write_27 ?_
    refine lv_iload_n S.1 S.2.1 dX1_write_30 rfl (lv_at hl 1 rfl) ?_
    refine lv_iload_n S.1 S.2.1 dX1_write_31 rfl (lv_at hl 3 rfl) ?_
    refine cs_knBorn S hK hP hD hS (j := row) (by omega) dX1_write_32 (fun H locs hP hD hS => ?_)
    refine lv_aload_n S.1 S.2.1 dX1_write_33 rfl (lv_at hl 0 rfl) ?_
    refine cf_known_costs S hK hP dX1_write_34 ?_
    refine lv_iload_n S.1 S.2.1 dX1_write_37 rfl (lv_at hl 1 rfl) ?_
    refine lv_lload S.1 S.2.1 dX1_write_38 (lv_at hl 4 rfl) ?_
    refine cs_knCosts S hK hP hD hS (j := row) (by omega) dX1_write_40 (fun H locs hP hD hS => ?_)
    have e9 : pWrite 6 7 0 3 row x y z σ = sJ 0 row (z) (sI 7 row (y) (sI 6 row (x) σ)) := by first | (simp only [pWrite, c1, reduceIte, Bool.false_eq_true, eq_self_iff_true, if_true, if_false]; done) | with_reducible rfl
    rw [e9]
    exact kret_v S hr hlk hP hD hS dX1_write_41
  · refine lv_aload_n S.1 S.2.1 dX1_write_9 rfl (lv_at hl 0 rfl) ?_
    refine lv_dup S.1 S.2.1 dX1_write_10 rfl ?_
    refine cf_known_count S hK hP dX1_write_11 ?_
    refine lv_iconst (v := (nI 1)) S.1 S.2.1 dX1_write_14 (by decide) ?_
    refine lv_iadd S.1 S.2.1 dX1_write_15 ?_
    refine cp_known_count S hK hP hD hS dX1_write_16 (fun H locs hP hD hS => ?_)
    refine lv_aload_n S.1 S.2.1 dX1_write_19 rfl (lv_at hl 0 rfl) ?_
    refine cf_known_number S hK hP dX1_write_20 ?_
    refine lv_iload_n S.1 S.2.1 dX1_write_23 rfl (lv_at hl 1 rfl) ?_
    refine lv_iload_n S.1 S.2.1 dX1_write_24 rfl (lv_at hl 2 rfl) ?_
    refine cs_knNumber S hK hP hD hS (j := row) (by omega) dX1_write_25 (fun H locs hP hD hS => ?_)
    refine lv_aload_n S.1 S.2.1 dX1_write_26 rfl (lv_at hl 0 rfl) ?_
    refine cf_known_born S hK hP dX1_write_27 ?_
    refine lv_iload_n S.1 S.2.1 dX1_write_30 rfl (lv_at hl 1 rfl) ?_
    refine lv_iload_n S.1 S.2.1 dX1_write_31 rfl (lv_at hl 3 rfl) ?_
    refine cs_knBorn S hK hP hD hS (j := row) (by omega) dX1_write_32 (fun H locs hP hD hS => ?_)
    refine lv_aload_n S.1 S.2.1 dX1_write_33 rfl (lv_at hl 0 rfl) ?_
    refine cf_known_costs S hK hP dX1_write_34 ?_
    refine lv_iload_n S.1 S.2.1 dX1_write_37 rfl (lv_at hl 1 rfl) ?_
    refine lv_lload S.1 S.2.1 dX1_write_38 (lv_at hl 4 rfl) ?_
    refine cs_knCosts S hK hP hD hS (j := row) (by omega) dX1_write_40 (fun H locs hP hD hS => ?_)
    have e9 : pWrite 6 7 0 3 row x y z σ = sJ 0 row (z) (sI 7 row (y) (sI 6 row (x) (sI 0 3 ((σ.1 0 3) + (nI 1)) σ))) := by first | (simp only [pWrite, eq_true c1, reduceIte, Bool.false_eq_true, eq_self_iff_true, if_true, if_false]; done) | with_reducible rfl
    rw [e9]
    exact kret_v S hr hlk hP hD hS dX1_write_41
theorem call_X1_write_known {p : Program} {l : Launch} {e : Env} {R : Room} {s : State} {m : MethodId} {args : Array Value} {below : List Frame} {meth : Method} {c : Code} {H : Heap} {locs : List Loc} {cells slots : Nat} {Q : State → Prop} {cc : ByteArray} {pc nL : Nat} {ls : Array Slot} {rest : List Value} {D : va_G} {A : Nat → Prop} {w0 : Cond} {X : va_W} {cy : Nat → ClassId} {a : Nat → Nat} {σ : CS} (S : CallFix p m c cc nL s args (w0 :: gw) RX2) (hK : va_K D vwCl (tyA cy) s) (hN : kN nestC s) (hP : va_P D vwCl (X ++ cB cy a σ) H) (hD : va_D A (X ++ cB cy a σ)) (hS : va_S A s.heap H locs) (hA : ∀ q, s.heap.size ≤ q → A q) {row : Nat} {x : Int32} {y : Int32} {z : Int64} (hrow : row < 64) (hsz : ls.size = nL) (hW : (rest.map fun v => v.category).sum ≤ 8) (hR : 0 + 1 ≤ R.frames ∧ 8 + (6 + 11) + 32 * 0 ≤ R.locals) (hdg : decode cc pc = .ok (.invokevirtual 202, 3)) (hfc : cells ≤ R.cells ∧ slots ≤ R.slots)
    (kk : ∀ (H1 : Heap) (locs1 : List Loc), va_P D vwCl (X ++ cB cy a (pWrite 6 7 0 3 row x y z σ)) H1 → va_D A (X ++ cB cy a (pWrite 6 7 0 3 row x y z σ)) → va_S A s.heap H1 locs1 → W p l e R s m args below meth c H1 locs1 cells slots Q (F0 m (pc + 3) ls (rest))) : W p l e R s m args below meth c H locs cells slots Q (F0 m pc ls (.long (z) :: .int (y) :: .int (x) :: .int (nI (row)) :: .ref (a 6) :: rest)) :=
  kgo_v (va_runVN (As := [.int (nI (row)), .int (x), .int (y), .long (z)]) (rest := rest) S (c_X1_write_known l D cy a X σ row x y z hrow H.size) ⟨va_cnB 4 S.2.2.2.2 (gw_good_in wm_329) rfl rfl rfl (hN _ nc_8) (S.2.2.2.2 _ (List.mem_cons_of_mem _ wm_49)) (by decide +kernel) hR, (S.2.2.2.2 _ (List.mem_cons_of_mem _ wm_328)), (S.2.2.2.2 _ (List.mem_cons_of_mem _ wm_15))⟩ ⟨kblind nestC_ok, crecv_known hK hP, kpre nestC_ok hN hK hP hD⟩ rfl rfl hsz rfl (lv_room hW) hdg hfc) hD hS hA kk
set_option maxHeartbeats 400000 in
set_option maxRecDepth 100000 in
theorem c_X1_clear_known (l : Launch) (D : va_G) (cy : Nat → ClassId) (a : Nat → Nat) (X : va_W) (σ : CS) (row : Nat) (hrow : row < 64) : MetV l yX1_clear cX1_clear 2 (kRm 0 0 0) D (tyA cy) nestC [.ref (a 6), .int (nI (row))] (X ++ cB cy a σ) (X ++ cB cy a (pClear 6 0 3 row σ)) 0 0 := by
  intro sz
  refine kmet (own := RX1) (by decide) rfl (Nat.le_of_ble_eq_true rfl) (fun p e s m args below meth c S hr hlk hK hN hP hD hsz hA hnm ls hl => ?_)
  have hS : va_S (va_A (X ++ cB cy a σ) sz) s.heap s.heap [] := va_S.rf
  have hl : lv_has ls 2 [(0, .ref (a 6)), (1, .int (nI (row)))] := hl
  refine lv_aload_n S.1 S.2.1 dX1_clear_0 rfl (lv_at hl 0 rfl) ?_
  refine cf_known_number S hK hP dX1_clear_1 ?_
  refine lv_iload_n S.1 S.2.1 dX1_clear_4 rfl (lv_at hl 1 rfl) ?_
  refine ca_knNumber S hK hP (j := row) (by omega) dX1_clear_5 ?_
  refine lv_if_le (tgt := 19) S.1 S.2.1 dX1_clear_6 (by decide) (fun c1 => ?_) (fun c1 => ?_)
  · refine lv_aload_n S.1 S.2.1 dX1_clear_19 rfl (lv_at hl 0 rfl) ?_
    refine cf_known_number S hK hP dX1_clear_20 ?_
    refine lv_iload_n S.1 S.2.1 dX1_clear_23 rfl (lv_at hl 1 rfl) ?_
    refine lv_iconst (v := (nI 0)) S.1 S.2.1 dX1_clear_24 (by decide) ?_
    refine cs_knNumber S hK hP hD hS (j := row) (by omega) dX1_clear_25 (fun H locs hP hD hS => ?_)
    refine lv_aload_n S.1 S.2.1 dX1_clear_26 rfl (lv_at hl 0 rfl) ?_
    refine cf_known_costs S hK hP dX1_clear_27 ?_
    refine lv_iload_n S.1 S.2.1 dX1_clear_30 rfl (lv_at hl 1 rfl) ?_
    refine lv_lconst (v := 0) S.1 S.2.1 dX1_clear_31 (by decide) ?_
    refine cs_knCosts S hK hP hD hS (j := row) (by omega) dX1_clear_32 (fun H locs hP hD hS => ?_)
    have e9 : pClear 6 0 3 row σ = sJ 0 row (0) (sI 6 row (nI 0) σ) := by first | (simp only [pClear, c1, reduceIte, Bool.false_eq_true, eq_self_iff_true, if_true, if_false]; done) | with_reducible rfl
    rw [e9]
    exact kret_v S hr hlk hP hD hS dX1_clear_33
  · refine lv_aload_n S.1 S.2.1 dX1_clear_9 rfl (lv_at hl 0 rfl) ?_
    refine lv_dup S.1 S.2.1 dX1_clear_10 rfl ?_
    refine cf_known_count S hK hP dX1_clear_11 ?_
    refine lv_iconst (v := (nI 1)) S.1 S.2.1 dX1_clear_14 (by decide) ?_
    refine lv_isub S.1 S.2.1 dX1_clear_15 ?_
    refine cp_known_count S hK hP hD hS dX1_clear_16 (fun H locs hP hD hS => ?_)
    refine lv_aload_n S.1 S.2.1 dX1_clear_19 rfl (lv_at hl 0 rfl) ?_
    refine cf_known_number S hK hP dX1_clear_20 ?_
    refine lv_iload_n S.1 S.2.1 dX1_clear_23 rfl (lv_at hl 1 rfl) ?_
    refine lv_iconst (v := (nI 0)) S.1 S.2.1 dX1_clear_24 (by decide) ?_
    refine cs_knNumber S hK hP hD hS (j := row) (by omega) dX1_clear_25 (fun H locs hP hD hS => ?_)
    refine lv_aload_n S.1 S.2.1 dX1_clear_26 rfl (lv_at hl 0 rfl) ?_
    refine cf_known_costs S hK hP dX1_clear_27 ?_
    refine lv_iload_n S.1 S.2.1 dX1_clear_30 rfl (lv_at hl 1 rfl) ?_
    refine lv_lconst (v := 0) S.1 S.2.1 dX1_clear_31 (by decide) ?_
    refine cs_knCosts S hK hP hD hS (j := row) (by omega) dX1_clear_32 (fun H locs hP hD hS => ?_)
    have e9 : pClear 6 0 3 row σ = sJ 0 row (0) (sI 6 row (nI 0) (sI 0 3 ((σ.1 0 3) - (nI 1)) σ)) := by first | (simp only [pClear, c1, reduceIte, Bool.false_eq_true, eq_self_iff_true, if_true, if_false]; done) | with_reducible rfl
    rw [e9]
    exact kret_v S hr hlk hP hD hS dX1_clear_33
theorem call_X1_clear_known_X2 {p : Program} {l : Launch} {e : Env} {R : Room} {s : State} {m : MethodId} {args : Array Value} {below : List Frame} {meth : Method} {c : Code} {H : Heap} {locs : List Loc} {cells slots : Nat} {Q : State → Prop} {cc : ByteArray} {pc nL : Nat} {ls : Array Slot} {rest : List Value} {D : va_G} {A : Nat → Prop} {w0 : Cond} {X : va_W} {cy : Nat → ClassId} {a : Nat → Nat} {σ : CS} (S : CallFix p m c cc nL s args (w0 :: gw) RX2) (hK : va_K D vwCl (tyA cy) s) (hN : kN nestC s) (hP : va_P D vwCl (X ++ cB cy a σ) H) (hD : va_D A (X ++ cB cy a σ)) (hS : va_S A s.heap H locs) (hA : ∀ q, s.heap.size ≤ q → A q) {row : Nat} (hrow : row < 64) (hsz : ls.size = nL) (hW : (rest.map fun v => v.category).sum ≤ 8) (hR : 0 + 1 ≤ R.frames ∧ 8 + (2 + 11) + 32 * 0 ≤ R.locals) (hdg : decode cc pc = .ok (.invokevirtual 110, 3)) (hfc : cells ≤ R.cells ∧ slots ≤ R.slots)
    (kk : ∀ (H1 : Heap) (locs1 : List Loc), va_P D vwCl (X ++ cB cy a (pClear 6 0 3 row σ)) H1 → va_D A (X ++ cB cy a (pClear 6 0 3 row σ)) → va_S A s.heap H1 locs1 → W p l e R s m args below meth c H1 locs1 cells slots Q (F0 m (pc + 3) ls (rest))) : W p l e R s m args below meth c H locs cells slots Q (F0 m pc ls (.int (nI (row)) :: .ref (a 6) :: rest)) :=
  kgo_v (va_runVN (As := [.int (nI (row))]) (rest := rest) S (c_X1_clear_known l D cy a X σ row hrow H.size) ⟨va_cnB 1 S.2.2.2.2 (gw_good_in wm_364) rfl rfl rfl (hN _ nc_9) (S.2.2.2.2 _ (List.mem_cons_of_mem _ wm_49)) (by decide +kernel) hR, (S.2.2.2.2 _ (List.mem_cons_of_mem _ wm_363)), (S.2.2.2.2 _ (List.mem_cons_of_mem _ wm_21))⟩ ⟨kblind nestC_ok, crecv_known hK hP, kpre nestC_ok hN hK hP hD⟩ rfl rfl hsz rfl (lv_room hW) hdg hfc) hD hS hA kk
theorem call_X1_clear_known_X1 {p : Program} {l : Launch} {e : Env} {R : Room} {s : State} {m : MethodId} {args : Array Value} {below : List Frame} {meth : Method} {c : Code} {H : Heap} {locs : List Loc} {cells slots : Nat} {Q : State → Prop} {cc : ByteArray} {pc nL : Nat} {ls : Array Slot} {rest : List Value} {D : va_G} {A : Nat → Prop} {w0 : Cond} {X : va_W} {cy : Nat → ClassId} {a : Nat → Nat} {σ : CS} (S : CallFix p m c cc nL s args (w0 :: gw) RX1) (hK : va_K D vwCl (tyA cy) s) (hN : kN nestC s) (hP : va_P D vwCl (X ++ cB cy a σ) H) (hD : va_D A (X ++ cB cy a σ)) (hS : va_S A s.heap H locs) (hA : ∀ q, s.heap.size ≤ q → A q) {row : Nat} (hrow : row < 64) (hsz : ls.size = nL) (hW : (rest.map fun v => v.category).sum ≤ 8) (hR : 0 + 1 ≤ R.frames ∧ 8 + (2 + 11) + 32 * 0 ≤ R.locals) (hdg : decode cc pc = .ok (.invokevirtual 30, 3)) (hfc : cells ≤ R.cells ∧ slots ≤ R.slots)
    (kk : ∀ (H1 : Heap) (locs1 : List Loc), va_P D vwCl (X ++ cB cy a (pClear 6 0 3 row σ)) H1 → va_D A (X ++ cB cy a (pClear 6 0 3 row σ)) → va_S A s.heap H1 locs1 → W p l e R s m args below meth c H1 locs1 cells slots Q (F0 m (pc + 3) ls (rest))) : W p l e R s m args below meth c H locs cells slots Q (F0 m pc ls (.int (nI (row)) :: .ref (a 6) :: rest)) :=
  kgo_v (va_runV (As := [.int (nI (row))]) (rest := rest) S (c_X1_clear_known l D cy a X σ row hrow H.size) (cwV 1 S.2.2.2.2 (gw_good_1 wm_408 (gw_good_1 wm_363 (gw_good_1 wm_21 (gw_good_1 wm_49 (gw_good_in wm_364))))) rfl rfl rfl (by decide +kernel) hR) ⟨kblind nestC_ok, crecv_known hK hP, kpre nestC_ok hN hK hP hD⟩ rfl rfl hsz rfl (lv_room hW) hdg hfc) hD hS hA kk
set_option maxHeartbeats 400000 in
set_option maxRecDepth 100000 in
theorem c_X1_costFor_known (l : Launch) (D : va_G) (cy : Nat → ClassId) (a : Nat → Nat) (X : va_W) (σ : CS) (row : Nat) (w : Nat) (hrow : row < 64) : MetI l yX1_costFor cX1_costFor 3 .int (kRm 0 0 0) D (tyA cy) nestC [.ref (a 6), .int (nI (row)), .int (nI (w))] (X ++ cB cy a σ) (X ++ cB cy a σ) (costF (σ.2 0 row) w) 0 0 := by
  intro sz
  refine kmet (own := RX1) (by decide) rfl (Nat.le_of_ble_eq_true rfl) (fun p e s m args below meth c S hr hlk hK hN hP hD hsz hA hnm ls hl => ?_)
  have hS : va_S (va_A (X ++ cB cy a σ) sz) s.heap s.heap [] := va_S.rf
  have hl : lv_has ls 3 [(0, .ref (a 6)), (1, .int (nI (row))), (2, .int (nI (w)))] := hl
  refine lv_aload_n S.1 S.2.1 dX1_costFor_0 rfl (lv_at hl 0 rfl) ?_
  refine cf_known_costs S hK hP dX1_costFor_1 ?_
  refine lv_iload_n S.1 S.2.1 dX1_costFor_4 rfl (lv_at hl 1 rfl) ?_
  refine ca_knCosts S hK hP (j := row) (by omega) dX1_costFor_5 ?_
  refine lv_bipush (v := (nI 6)) S.1 S.2.1 dX1_costFor_6 (by decide) ?_
  refine lv_iload_n S.1 S.2.1 dX1_costFor_8 rfl (lv_at hl 2 rfl) ?_
  refine lv_imul S.1 S.2.1 dX1_costFor_9 ?_
  refine k_top (pk_mul _ _) ?_
  refine lv_lshr (v := (σ.2 0 row) >>> (((nI (6 * w))).toInt64 &&& 63)) S.1 S.2.1 dX1_costFor_10 rfl ?_
  refine lv_l2i (v := ((σ.2 0 row) >>> (((nI (6 * w))).toInt64 &&& 63)).toInt32) S.1 S.2.1 dX1_costFor_11 rfl ?_
  refine lv_bipush (v := (nI 63)) S.1 S.2.1 dX1_costFor_12 (by decide) ?_
  refine lv_iand S.1 S.2.1 dX1_costFor_14 ?_
  exact kret_i S hr hlk hP hD hS (by first | (simp only [costF, reduceIte, Bool.false_eq_true, eq_self_iff_true, if_true, if_false]; done) | with_reducible rfl) dX1_costFor_15
theorem call_X1_costFor_known_X2 {p : Program} {l : Launch} {e : Env} {R : Room} {s : State} {m : MethodId} {args : Array Value} {below : List Frame} {meth : Method} {c : Code} {H : Heap} {locs : List Loc} {cells slots : Nat} {Q : State → Prop} {cc : ByteArray} {pc nL : Nat} {ls : Array Slot} {rest : List Value} {D : va_G} {A : Nat → Prop} {w0 : Cond} {X : va_W} {cy : Nat → ClassId} {a : Nat → Nat} {σ : CS} (S : CallFix p m c cc nL s args (w0 :: gw) RX2) (hK : va_K D vwCl (tyA cy) s) (hN : kN nestC s) (hP : va_P D vwCl (X ++ cB cy a σ) H) (hD : va_D A (X ++ cB cy a σ)) (hS : va_S A s.heap H locs) (hA : ∀ q, s.heap.size ≤ q → A q) {row : Nat} {w : Nat} (hrow : row < 64) (hsz : ls.size = nL) (hW : (rest.map fun v => v.category).sum ≤ 8) (hR : 0 + 1 ≤ R.frames ∧ 8 + (3 + 11) + 32 * 0 ≤ R.locals) (hdg : decode cc pc = .ok (.invokevirtual 143, 3)) (hfc : cells ≤ R.cells ∧ slots ≤ R.slots)
    (kk : ∀ (H1 : Heap) (locs1 : List Loc), va_P D vwCl (X ++ cB cy a σ) H1 → va_D A (X ++ cB cy a σ) → va_S A s.heap H1 locs1 → W p l e R s m args below meth c H1 locs1 cells slots Q (F0 m (pc + 3) ls (.int (costF (σ.2 0 row) w) :: rest))) : W p l e R s m args below meth c H locs cells slots Q (F0 m pc ls (.int (nI (w)) :: .int (nI (row)) :: .ref (a 6) :: rest)) :=
  kgo_i (va_runVN (As := [.int (nI (row)), .int (nI (w))]) (rest := rest) S (c_X1_costFor_known l D cy a X σ row w hrow H.size) ⟨va_cnB 2 S.2.2.2.2 (gw_good_in wm_151) rfl rfl rfl (hN _ nc_6) (S.2.2.2.2 _ (List.mem_cons_of_mem _ wm_49)) (by decide +kernel) hR, (S.2.2.2.2 _ (List.mem_cons_of_mem _ wm_150)), (S.2.2.2.2 _ (List.mem_cons_of_mem _ wm_1))⟩ ⟨kblind nestC_ok, crecv_known hK hP, kpre nestC_ok hN hK hP hD⟩ rfl rfl hsz rfl (lv_room hW) hdg hfc) hD hS hA kk
theorem call_X1_costFor_known_X1 {p : Program} {l : Launch} {e : Env} {R : Room} {s : State} {m : MethodId} {args : Array Value} {below : List Frame} {meth : Method} {c : Code} {H : Heap} {locs : List Loc} {cells slots : Nat} {Q : State → Prop} {cc : ByteArray} {pc nL : Nat} {ls : Array Slot} {rest : List Value} {D : va_G} {A : Nat → Prop} {w0 : Cond} {X : va_W} {cy : Nat → ClassId} {a : Nat → Nat} {σ : CS} (S : CallFix p m c cc nL s args (w0 :: gw) RX1) (hK : va_K D vwCl (tyA cy) s) (hN : kN nestC s) (hP : va_P D vwCl (X ++ cB cy a σ) H) (hD : va_D A (X ++ cB cy a σ)) (hS : va_S A s.heap H locs) (hA : ∀ q, s.heap.size ≤ q → A q) {row : Nat} {w : Nat} (hrow : row < 64) (hsz : ls.size = nL) (hW : (rest.map fun v => v.category).sum ≤ 8) (hR : 0 + 1 ≤ R.frames ∧ 8 + (3 + 11) + 32 * 0 ≤ R.locals) (hdg : decode cc pc = .ok (.invokevirtual 26, 3)) (hfc : cells ≤ R.cells ∧ slots ≤ R.slots)
    (kk : ∀ (H1 : Heap) (locs1 : List Loc), va_P D vwCl (X ++ cB cy a σ) H1 → va_D A (X ++ cB cy a σ) → va_S A s.heap H1 locs1 → W p l e R s m args below meth c H1 locs1 cells slots Q (F0 m (pc + 3) ls (.int (costF (σ.2 0 row) w) :: rest))) : W p l e R s m args below meth c H locs cells slots Q (F0 m pc ls (.int (nI (w)) :: .int (nI (row)) :: .ref (a 6) :: rest)) :=
  kgo_i (va_runV (As := [.int (nI (row)), .int (nI (w))]) (rest := rest) S (c_X1_costFor_known l D cy a X σ row w hrow H.size) (cwV 2 S.2.2.2.2 (gw_good_1 wm_148 (gw_good_1 wm_150 (gw_good_1 wm_1 (gw_good_1 wm_49 (gw_good_in wm_151))))) rfl rfl rfl (by decide +kernel) hR) ⟨kblind nestC_ok, crecv_known hK hP, kpre nestC_ok hN hK hP hD⟩ rfl rfl hsz rfl (lv_room hW) hdg hfc) hD hS hA kk
set_option maxHeartbeats 400000 in
set_option maxRecDepth 100000 in
theorem c_X1_costCount_known (l : Launch) (D : va_G) (cy : Nat → ClassId) (a : Nat → Nat) (X : va_W) (σ : CS) (row : Nat) (hrow : row < 64) : MetI l yX1_costCount cX1_costCount 4 .int (kRm 1 0 0) D (tyA cy) nestC [.ref (a 6), .int (nI (row))] (X ++ cB cy a σ) (X ++ cB cy a σ) (cntF (σ.2 0 row)) 0 0 := by
  intro sz
  refine kmet (own := RX1) (by decide) rfl (Nat.le_of_ble_eq_true rfl) (fun p e s m args below meth c S hr hlk hK hN hP hD hsz hA hnm ls hl => ?_)
  have hS : va_S (va_A (X ++ cB cy a σ) sz) s.heap s.heap [] := va_S.rf
  have hl : lv_has ls 4 [(0, .ref (a 6)), (1, .int (nI (row)))] := hl
  refine lv_iconst (v := (nI 0)) S.1 S.2.1 dX1_costCount_0 (by decide) ?_
  refine lv_istore_n (lv' := [(2, .int (nI 0)), (0, .ref (a 6)), (1, .int (nI (row)))]) S.1 S.2.1 dX1_costCount_1 rfl hl (by decide) rfl (fun ls hl => ?_)
  refine lv_iconst (v := (nI 0)) S.1 S.2.1 dX1_costCount_2 (by decide) ?_
  refine lv_istore_n (lv' := [(3, .int (nI 0)), (2, .int (nI 0)), (0, .ref (a 6)), (1, .int (nI (row)))]) S.1 S.2.1 dX1_costCount_3 rfl hl (by decide) rfl (fun ls hl => ?_)
  have lp1 : ∀ (n1 i1 : Nat)  (x1_0 : Int32), i1 + n1 = 8 → itr (fCnt (σ.2 0 row)) n1 i1 x1_0 = itr (fCnt (σ.2 0 row)) 8 0 (nI 0) → ∀ (H : Heap) (locs : List Loc), va_P D vwCl (X ++ cB cy a σ) H → va_D (va_A (X ++ cB cy a σ) sz) (X ++ cB cy a σ) → va_S (va_A (X ++ cB cy a σ) sz) s.heap H locs → ∀ ls : Array Slot, lv_has ls 4 [(3, .int (nI (i1))), (2, .int (x1_0)), (0, .ref (a 6)), (1, .int (nI (row)))] → W p l e (kRm 1 0 0) s m args below meth c H locs 0 0 (MQ below (kQi D (X ++ cB cy a σ) (X ++ cB cy a σ) (cntF (σ.2 0 row)) sz) args s 0 0 (va_A (X ++ cB cy a σ) sz)) (F0 m 4 ls []) := by
    intro n1
    induction n1 with
    | zero =>
      intro i1 x1_0 hi1 he1 H locs hP hD hS ls hl
      have hi1 : i1 = 8 := by omega
      have he1 : x1_0 = itr (fCnt (σ.2 0 row)) 8 0 (nI 0) := he1
      refine lv_iload_n S.1 S.2.1 dX1_costCount_4 rfl (lv_at hl 0 rfl) ?_
      refine lv_bipush (v := (nI 8)) S.1 S.2.1 dX1_costCount_5 (by decide) ?_
      refine lv_icmp_ge (tgt := 28) S.1 S.2.1 dX1_costCount_7 (by decide) (fun _ => ?_) (fun c => absurd (nI_le (by omega) (by omega)) c)
      refine lv_iload_n S.1 S.2.1 dX1_costCount_28 rfl (lv_at hl 1 rfl) ?_
      exact kret_i S hr hlk hP hD hS (by first | (simp only [cntF, ← he1, reduceIte, Bool.false_eq_true, eq_self_iff_true, if_true, if_false]; done) | with_reducible rfl) dX1_costCount_29
    | succ n1 ih1 =>
      intro i1 x1_0 hi1 he1 H locs hP hD hS ls hl
      have hlt1 : i1 < 8 := by omega
      refine lv_iload_n S.1 S.2.1 dX1_costCount_4 rfl (lv_at hl 0 rfl) ?_
      refine lv_bipush (v := (nI 8)) S.1 S.2.1 dX1_costCount_5 (by decide) ?_
      refine lv_icmp_ge (tgt := 28) S.1 S.2.1 dX1_costCount_7 (by decide) (fun c => absurd c (nI_ge (by omega) (by omega))) (fun _ => ?_)
      refine lv_aload_n S.1 S.2.1 dX1_costCount_10 rfl (lv_at hl 2 rfl) ?_
      refine lv_iload_n S.1 S.2.1 dX1_costCount_11 rfl (lv_at hl 3 rfl) ?_
      refine lv_iload_n S.1 S.2.1 dX1_costCount_12 rfl (lv_at hl 0 rfl) ?_
      refine call_X1_costFor_known_X1 S hK hN hP hD hS hA (row := row) (w := i1) (by omega) hl.1 (Nat.le_of_ble_eq_true rfl) ⟨Nat.le_of_ble_eq_true rfl, Nat.le_of_ble_eq_true rfl⟩ dX1_costCount_13 ⟨Nat.le_refl _, Nat.le_refl _⟩ (fun H locs hP hD hS => ?_)
      refine lv_if_le (tgt := 22) S.1 S.2.1 dX1_costCount_16 (by decide) (fun c4 => ?_) (fun c4 => ?_)
      · refine lv_iinc (v := (nI (i1 + 1))) (lv' := [(3, .int (nI (i1 + 1))), (2, .int (x1_0)), (0, .ref (a 6)), (1, .int (nI (row)))]) S.1 S.2.1 dX1_costCount_22 hl (k := 0) rfl (nI_add _ 1) (by decide) rfl (fun ls hl => ?_)
        refine lv_goto (tgt := 4) S.1 S.2.1 dX1_costCount_25 (by decide) ?_
        exact ih1 (i1 + 1)  ((x1_0)) (by omega) (itr_step he1 (by first | (simp only [fCnt, c4, reduceIte, Bool.false_eq_true, eq_self_iff_true, if_true, if_false]; done) | with_reducible rfl)) _ _ hP hD hS _ (lv_sub hl [0, 1, 2, 3] rfl)
      · refine lv_iinc (v := ((x1_0) + (Int32.ofInt (1)))) (lv' := [(2, .int ((x1_0) + (Int32.ofInt (1)))), (3, .int (nI (i1))), (0, .ref (a 6)), (1, .int (nI (row)))]) S.1 S.2.1 dX1_costCount_19 hl (k := 1) rfl rfl (by decide) rfl (fun ls hl => ?_)
        refine lv_iinc (v := (nI (i1 + 1))) (lv' := [(3, .int (nI (i1 + 1))), (2, .int ((x1_0) + (Int32.ofInt (1)))), (0, .ref (a 6)), (1, .int (nI (row)))]) S.1 S.2.1 dX1_costCount_22 hl (k := 1) rfl (nI_add _ 1) (by decide) rfl (fun ls hl => ?_)
        refine lv_goto (tgt := 4) S.1 S.2.1 dX1_costCount_25 (by decide) ?_
        exact ih1 (i1 + 1)  (((x1_0) + (Int32.ofInt (1)))) (by omega) (itr_step he1 (by first | (simp only [fCnt, c4, reduceIte, Bool.false_eq_true, eq_self_iff_true, if_true, if_false]; done) | with_reducible rfl)) _ _ hP hD hS _ (lv_sub hl [0, 1, 2, 3] rfl)
  exact lp1 8 0  ((nI 0)) (by omega) rfl _ _ hP hD hS _ (lv_sub hl [0, 1, 2, 3] rfl)
theorem call_X1_costCount_known {p : Program} {l : Launch} {e : Env} {R : Room} {s : State} {m : MethodId} {args : Array Value} {below : List Frame} {meth : Method} {c : Code} {H : Heap} {locs : List Loc} {cells slots : Nat} {Q : State → Prop} {cc : ByteArray} {pc nL : Nat} {ls : Array Slot} {rest : List Value} {D : va_G} {A : Nat → Prop} {w0 : Cond} {X : va_W} {cy : Nat → ClassId} {a : Nat → Nat} {σ : CS} (S : CallFix p m c cc nL s args (w0 :: gw) RX2) (hK : va_K D vwCl (tyA cy) s) (hN : kN nestC s) (hP : va_P D vwCl (X ++ cB cy a σ) H) (hD : va_D A (X ++ cB cy a σ)) (hS : va_S A s.heap H locs) (hA : ∀ q, s.heap.size ≤ q → A q) {row : Nat} (hrow : row < 64) (hsz : ls.size = nL) (hW : (rest.map fun v => v.category).sum ≤ 8) (hR : 1 + 1 ≤ R.frames ∧ 8 + (4 + 11) + 32 * 1 ≤ R.locals) (hdg : decode cc pc = .ok (.invokevirtual 139, 3)) (hfc : cells ≤ R.cells ∧ slots ≤ R.slots)
    (kk : ∀ (H1 : Heap) (locs1 : List Loc), va_P D vwCl (X ++ cB cy a σ) H1 → va_D A (X ++ cB cy a σ) → va_S A s.heap H1 locs1 → W p l e R s m args below meth c H1 locs1 cells slots Q (F0 m (pc + 3) ls (.int (cntF (σ.2 0 row)) :: rest))) : W p l e R s m args below meth c H locs cells slots Q (F0 m pc ls (.int (nI (row)) :: .ref (a 6) :: rest)) :=
  kgo_i (va_runVN (As := [.int (nI (row))]) (rest := rest) S (c_X1_costCount_known l D cy a X σ row hrow H.size) ⟨va_cnB 1 S.2.2.2.2 (gw_good_in wm_147) rfl rfl rfl (hN _ nc_5) (S.2.2.2.2 _ (List.mem_cons_of_mem _ wm_49)) (by decide +kernel) hR, (S.2.2.2.2 _ (List.mem_cons_of_mem _ wm_146)), (S.2.2.2.2 _ (List.mem_cons_of_mem _ wm_0))⟩ ⟨kblind nestC_ok, crecv_known hK hP, kpre nestC_ok hN hK hP hD⟩ rfl rfl hsz rfl (lv_room hW) hdg hfc) hD hS hA kk
set_option maxHeartbeats 400000 in
set_option maxRecDepth 100000 in
theorem c_X1_write_inFlight (l : Launch) (D : va_G) (cy : Nat → ClassId) (a : Nat → Nat) (X : va_W) (σ : CS) (row : Nat) (x : Int32) (y : Int32) (z : Int64) (hrow : row < 512) : MetV l yX1_write cX1_write 6 (kRm 0 0 0) D (tyA cy) nestC [.ref (a 7), .int (nI (row)), .int (x), .int (y), .long (z)] (X ++ cB cy a σ) (X ++ cB cy a (pWrite 8 9 1 4 row x y z σ)) 0 0 := by
  intro sz
  refine kmet (own := RX1) (by decide) rfl (Nat.le_of_ble_eq_true rfl) (fun p e s m args below meth c S hr hlk hK hN hP hD hsz hA hnm ls hl => ?_)
  have hS : va_S (va_A (X ++ cB cy a σ) sz) s.heap s.heap [] := va_S.rf
  have hl : lv_has ls 6 [(0, .ref (a 7)), (1, .int (nI (row))), (2, .int (x)), (3, .int (y)), (4, .long (z))] := hl
  refine lv_aload_n S.1 S.2.1 dX1_write_0 rfl (lv_at hl 0 rfl) ?_
  refine cf_inFlight_number S hK hP dX1_write_1 ?_
  refine lv_iload_n S.1 S.2.1 dX1_write_4 rfl (lv_at hl 1 rfl) ?_
  refine ca_inNumber S hK hP (j := row) (by omega) dX1_write_5 ?_
  refine lv_if_ne (tgt := 19) S.1 S.2.1 dX1_write_6 (by decide) (fun c1 => ?_) (fun c1 => ?_)
  · refine lv_aload_n S.1 S.2.1 dX1_write_19 rfl (lv_at hl 0 rfl) ?_
    refine cf_inFlight_number S hK hP dX1_write_20 ?_
    refine lv_iload_n S.1 S.2.1 dX1_write_23 rfl (lv_at hl 1 rfl) ?_
    refine lv_iload_n S.1 S.2.1 dX1_write_24 rfl (lv_at hl 2 rfl) ?_
    refine cs_inNumber S hK hP hD hS (j := row) (by omega) dX1_write_25 (fun H locs hP hD hS => ?_)
    refine lv_aload_n S.1 S.2.1 dX1_write_26 rfl (lv_at hl 0 rfl) ?_
    refine cf_inFlight_born S hK hP dX1_write_27 ?_
    refine lv_iload_n S.1 S.2.1 dX1_write_30 rfl (lv_at hl 1 rfl) ?_
    refine lv_iload_n S.1 S.2.1 dX1_write_31 rfl (lv_at hl 3 rfl) ?_
    refine cs_inBorn S hK hP hD hS (j := row) (by omega) dX1_write_32 (fun H locs hP hD hS => ?_)
    refine lv_aload_n S.1 S.2.1 dX1_write_33 rfl (lv_at hl 0 rfl) ?_
    refine cf_inFlight_costs S hK hP dX1_write_34 ?_
    refine lv_iload_n S.1 S.2.1 dX1_write_37 rfl (lv_at hl 1 rfl) ?_
    refine lv_lload S.1 S.2.1 dX1_write_38 (lv_at hl 4 rfl) ?_
    refine cs_inCosts S hK hP hD hS (j := row) (by omega) dX1_write_40 (fun H locs hP hD hS => ?_)
    have e9 : pWrite 8 9 1 4 row x y z σ = sJ 1 row (z) (sI 9 row (y) (sI 8 row (x) σ)) := by first | (simp only [pWrite, c1, reduceIte, Bool.false_eq_true, eq_self_iff_true, if_true, if_false]; done) | with_reducible rfl
    rw [e9]
    exact kret_v S hr hlk hP hD hS dX1_write_41
  · refine lv_aload_n S.1 S.2.1 dX1_write_9 rfl (lv_at hl 0 rfl) ?_
    refine lv_dup S.1 S.2.1 dX1_write_10 rfl ?_
    refine cf_inFlight_count S hK hP dX1_write_11 ?_
    refine lv_iconst (v := (nI 1)) S.1 S.2.1 dX1_write_14 (by decide) ?_
    refine lv_iadd S.1 S.2.1 dX1_write_15 ?_
    refine cp_inFlight_count S hK hP hD hS dX1_write_16 (fun H locs hP hD hS => ?_)
    refine lv_aload_n S.1 S.2.1 dX1_write_19 rfl (lv_at hl 0 rfl) ?_
    refine cf_inFlight_number S hK hP dX1_write_20 ?_
    refine lv_iload_n S.1 S.2.1 dX1_write_23 rfl (lv_at hl 1 rfl) ?_
    refine lv_iload_n S.1 S.2.1 dX1_write_24 rfl (lv_at hl 2 rfl) ?_
    refine cs_inNumber S hK hP hD hS (j := row) (by omega) dX1_write_25 (fun H locs hP hD hS => ?_)
    refine lv_aload_n S.1 S.2.1 dX1_write_26 rfl (lv_at hl 0 rfl) ?_
    refine cf_inFlight_born S hK hP dX1_write_27 ?_
    refine lv_iload_n S.1 S.2.1 dX1_write_30 rfl (lv_at hl 1 rfl) ?_
    refine lv_iload_n S.1 S.2.1 dX1_write_31 rfl (lv_at hl 3 rfl) ?_
    refine cs_inBorn S hK hP hD hS (j := row) (by omega) dX1_write_32 (fun H locs hP hD hS => ?_)
    refine lv_aload_n S.1 S.2.1 dX1_write_33 rfl (lv_at hl 0 rfl) ?_
    refine cf_inFlight_costs S hK hP dX1_write_34 ?_
    refine lv_iload_n S.1 S.2.1 dX1_write_37 rfl (lv_at hl 1 rfl) ?_
    refine lv_lload S.1 S.2.1 dX1_write_38 (lv_at hl 4 rfl) ?_
    refine cs_inCosts S hK hP hD hS (j := row) (by omega) dX1_write_40 (fun H locs hP hD hS => ?_)
    have e9 : pWrite 8 9 1 4 row x y z σ = sJ 1 row (z) (sI 9 row (y) (sI 8 row (x) (sI 0 4 ((σ.1 0 4) + (nI 1)) σ))) := by first | (simp only [pWrite, eq_true c1, reduceIte, Bool.false_eq_true, eq_self_iff_true, if_true, if_false]; done) | with_reducible rfl
    rw [e9]
    exact kret_v S hr hlk hP hD hS dX1_write_41
theorem call_X1_write_inFlight {p : Program} {l : Launch} {e : Env} {R : Room} {s : State} {m : MethodId} {args : Array Value} {below : List Frame} {meth : Method} {c : Code} {H : Heap} {locs : List Loc} {cells slots : Nat} {Q : State → Prop} {cc : ByteArray} {pc nL : Nat} {ls : Array Slot} {rest : List Value} {D : va_G} {A : Nat → Prop} {w0 : Cond} {X : va_W} {cy : Nat → ClassId} {a : Nat → Nat} {σ : CS} (S : CallFix p m c cc nL s args (w0 :: gw) RX2) (hK : va_K D vwCl (tyA cy) s) (hN : kN nestC s) (hP : va_P D vwCl (X ++ cB cy a σ) H) (hD : va_D A (X ++ cB cy a σ)) (hS : va_S A s.heap H locs) (hA : ∀ q, s.heap.size ≤ q → A q) {row : Nat} {x : Int32} {y : Int32} {z : Int64} (hrow : row < 512) (hsz : ls.size = nL) (hW : (rest.map fun v => v.category).sum ≤ 8) (hR : 0 + 1 ≤ R.frames ∧ 8 + (6 + 11) + 32 * 0 ≤ R.locals) (hdg : decode cc pc = .ok (.invokevirtual 202, 3)) (hfc : cells ≤ R.cells ∧ slots ≤ R.slots)
    (kk : ∀ (H1 : Heap) (locs1 : List Loc), va_P D vwCl (X ++ cB cy a (pWrite 8 9 1 4 row x y z σ)) H1 → va_D A (X ++ cB cy a (pWrite 8 9 1 4 row x y z σ)) → va_S A s.heap H1 locs1 → W p l e R s m args below meth c H1 locs1 cells slots Q (F0 m (pc + 3) ls (rest))) : W p l e R s m args below meth c H locs cells slots Q (F0 m pc ls (.long (z) :: .int (y) :: .int (x) :: .int (nI (row)) :: .ref (a 7) :: rest)) :=
  kgo_v (va_runVN (As := [.int (nI (row)), .int (x), .int (y), .long (z)]) (rest := rest) S (c_X1_write_inFlight l D cy a X σ row x y z hrow H.size) ⟨va_cnB 4 S.2.2.2.2 (gw_good_in wm_329) rfl rfl rfl (hN _ nc_8) (S.2.2.2.2 _ (List.mem_cons_of_mem _ wm_49)) (by decide +kernel) hR, (S.2.2.2.2 _ (List.mem_cons_of_mem _ wm_328)), (S.2.2.2.2 _ (List.mem_cons_of_mem _ wm_15))⟩ ⟨kblind nestC_ok, crecv_inFlight hK hP, kpre nestC_ok hN hK hP hD⟩ rfl rfl hsz rfl (lv_room hW) hdg hfc) hD hS hA kk
set_option maxHeartbeats 400000 in
set_option maxRecDepth 100000 in
theorem c_X1_clear_inFlight (l : Launch) (D : va_G) (cy : Nat → ClassId) (a : Nat → Nat) (X : va_W) (σ : CS) (row : Nat) (hrow : row < 512) : MetV l yX1_clear cX1_clear 2 (kRm 0 0 0) D (tyA cy) nestC [.ref (a 7), .int (nI (row))] (X ++ cB cy a σ) (X ++ cB cy a (pClear 8 1 4 row σ)) 0 0 := by
  intro sz
  refine kmet (own := RX1) (by decide) rfl (Nat.le_of_ble_eq_true rfl) (fun p e s m args below meth c S hr hlk hK hN hP hD hsz hA hnm ls hl => ?_)
  have hS : va_S (va_A (X ++ cB cy a σ) sz) s.heap s.heap [] := va_S.rf
  have hl : lv_has ls 2 [(0, .ref (a 7)), (1, .int (nI (row)))] := hl
  refine lv_aload_n S.1 S.2.1 dX1_clear_0 rfl (lv_at hl 0 rfl) ?_
  refine cf_inFlight_number S hK hP dX1_clear_1 ?_
  refine lv_iload_n S.1 S.2.1 dX1_clear_4 rfl (lv_at hl 1 rfl) ?_
  refine ca_inNumber S hK hP (j := row) (by omega) dX1_clear_5 ?_
  refine lv_if_le (tgt := 19) S.1 S.2.1 dX1_clear_6 (by decide) (fun c1 => ?_) (fun c1 => ?_)
  · refine lv_aload_n S.1 S.2.1 dX1_clear_19 rfl (lv_at hl 0 rfl) ?_
    refine cf_inFlight_number S hK hP dX1_clear_20 ?_
    refine lv_iload_n S.1 S.2.1 dX1_clear_23 rfl (lv_at hl 1 rfl) ?_
    refine lv_iconst (v := (nI 0)) S.1 S.2.1 dX1_clear_24 (by decide) ?_
    refine cs_inNumber S hK hP hD hS (j := row) (by omega) dX1_clear_25 (fun H locs hP hD hS => ?_)
    refine lv_aload_n S.1 S.2.1 dX1_clear_26 rfl (lv_at hl 0 rfl) ?_
    refine cf_inFlight_costs S hK hP dX1_clear_27 ?_
    refine lv_iload_n S.1 S.2.1 dX1_clear_30 rfl (lv_at hl 1 rfl) ?_
    refine lv_lconst (v := 0) S.1 S.2.1 dX1_clear_31 (by decide) ?_
    refine cs_inCosts S hK hP hD hS (j := row) (by omega) dX1_clear_32 (fun H locs hP hD hS => ?_)
    have e9 : pClear 8 1 4 row σ = sJ 1 row (0) (sI 8 row (nI 0) σ) := by first | (simp only [pClear, c1, reduceIte, Bool.false_eq_true, eq_self_iff_true, if_true, if_false]; done) | with_reducible rfl
    rw [e9]
    exact kret_v S hr hlk hP hD hS dX1_clear_33
  · refine lv_aload_n S.1 S.2.1 dX1_clear_9 rfl (lv_at hl 0 rfl) ?_
    refine lv_dup S.1 S.2.1 dX1_clear_10 rfl ?_
    refine cf_inFlight_count S hK hP dX1_clear_11 ?_
    refine lv_iconst (v := (nI 1)) S.1 S.2.1 dX1_clear_14 (by decide) ?_
    refine lv_isub S.1 S.2.1 dX1_clear_15 ?_
    refine cp_inFlight_count S hK hP hD hS dX1_clear_16 (fun H locs hP hD hS => ?_)
    refine lv_aload_n S.1 S.2.1 dX1_clear_19 rfl (lv_at hl 0 rfl) ?_
    refine cf_inFlight_number S hK hP dX1_clear_20 ?_
    refine lv_iload_n S.1 S.2.1 dX1_clear_23 rfl (lv_at hl 1 rfl) ?_
    refine lv_iconst (v := (nI 0)) S.1 S.2.1 dX1_clear_24 (by decide) ?_
    refine cs_inNumber S hK hP hD hS (j := row) (by omega) dX1_clear_25 (fun H locs hP hD hS => ?_)
    refine lv_aload_n S.1 S.2.1 dX1_clear_26 rfl (lv_at hl 0 rfl) ?_
    refine cf_inFlight_costs S hK hP dX1_clear_27 ?_
    refine lv_iload_n S.1 S.2.1 dX1_clear_30 rfl (lv_at hl 1 rfl) ?_
    refine lv_lconst (v := 0) S.1 S.2.1 dX1_clear_31 (by decide) ?_
    refine cs_inCosts S hK hP hD hS (j := row) (by omega) dX1_clear_32 (fun H locs hP hD hS => ?_)
    have e9 : pClear 8 1 4 row σ = sJ 1 row (0) (sI 8 row (nI 0) (sI 0 4 ((σ.1 0 4) - (nI 1)) σ)) := by first | (simp only [pClear, c1, reduceIte, Bool.false_eq_true, eq_self_iff_true, if_true, if_false]; done) | with_reducible rfl
    rw [e9]
    exact kret_v S hr hlk hP hD hS dX1_clear_33
theorem call_X1_clear_inFlight_X2 {p : Program} {l : Launch} {e : Env} {R : Room} {s : State} {m : MethodId} {args : Array Value} {below : List Frame} {meth : Method} {c : Code} {H : Heap} {locs : List Loc} {cells slots : Nat} {Q : State → Prop} {cc : ByteArray} {pc nL : Nat} {ls : Array Slot} {rest : List Value} {D : va_G} {A : Nat → Prop} {w0 : Cond} {X : va_W} {cy : Nat → ClassId} {a : Nat → Nat} {σ : CS} (S : CallFix p m c cc nL s args (w0 :: gw) RX2) (hK : va_K D vwCl (tyA cy) s) (hN : kN nestC s) (hP : va_P D vwCl (X ++ cB cy a σ) H) (hD : va_D A (X ++ cB cy a σ)) (hS : va_S A s.heap H locs) (hA : ∀ q, s.heap.size ≤ q → A q) {row : Nat} (hrow : row < 512) (hsz : ls.size = nL) (hW : (rest.map fun v => v.category).sum ≤ 8) (hR : 0 + 1 ≤ R.frames ∧ 8 + (2 + 11) + 32 * 0 ≤ R.locals) (hdg : decode cc pc = .ok (.invokevirtual 110, 3)) (hfc : cells ≤ R.cells ∧ slots ≤ R.slots)
    (kk : ∀ (H1 : Heap) (locs1 : List Loc), va_P D vwCl (X ++ cB cy a (pClear 8 1 4 row σ)) H1 → va_D A (X ++ cB cy a (pClear 8 1 4 row σ)) → va_S A s.heap H1 locs1 → W p l e R s m args below meth c H1 locs1 cells slots Q (F0 m (pc + 3) ls (rest))) : W p l e R s m args below meth c H locs cells slots Q (F0 m pc ls (.int (nI (row)) :: .ref (a 7) :: rest)) :=
  kgo_v (va_runVN (As := [.int (nI (row))]) (rest := rest) S (c_X1_clear_inFlight l D cy a X σ row hrow H.size) ⟨va_cnB 1 S.2.2.2.2 (gw_good_in wm_364) rfl rfl rfl (hN _ nc_9) (S.2.2.2.2 _ (List.mem_cons_of_mem _ wm_49)) (by decide +kernel) hR, (S.2.2.2.2 _ (List.mem_cons_of_mem _ wm_363)), (S.2.2.2.2 _ (List.mem_cons_of_mem _ wm_21))⟩ ⟨kblind nestC_ok, crecv_inFlight hK hP, kpre nestC_ok hN hK hP hD⟩ rfl rfl hsz rfl (lv_room hW) hdg hfc) hD hS hA kk
theorem call_X1_clear_inFlight_X1 {p : Program} {l : Launch} {e : Env} {R : Room} {s : State} {m : MethodId} {args : Array Value} {below : List Frame} {meth : Method} {c : Code} {H : Heap} {locs : List Loc} {cells slots : Nat} {Q : State → Prop} {cc : ByteArray} {pc nL : Nat} {ls : Array Slot} {rest : List Value} {D : va_G} {A : Nat → Prop} {w0 : Cond} {X : va_W} {cy : Nat → ClassId} {a : Nat → Nat} {σ : CS} (S : CallFix p m c cc nL s args (w0 :: gw) RX1) (hK : va_K D vwCl (tyA cy) s) (hN : kN nestC s) (hP : va_P D vwCl (X ++ cB cy a σ) H) (hD : va_D A (X ++ cB cy a σ)) (hS : va_S A s.heap H locs) (hA : ∀ q, s.heap.size ≤ q → A q) {row : Nat} (hrow : row < 512) (hsz : ls.size = nL) (hW : (rest.map fun v => v.category).sum ≤ 8) (hR : 0 + 1 ≤ R.frames ∧ 8 + (2 + 11) + 32 * 0 ≤ R.locals) (hdg : decode cc pc = .ok (.invokevirtual 30, 3)) (hfc : cells ≤ R.cells ∧ slots ≤ R.slots)
    (kk : ∀ (H1 : Heap) (locs1 : List Loc), va_P D vwCl (X ++ cB cy a (pClear 8 1 4 row σ)) H1 → va_D A (X ++ cB cy a (pClear 8 1 4 row σ)) → va_S A s.heap H1 locs1 → W p l e R s m args below meth c H1 locs1 cells slots Q (F0 m (pc + 3) ls (rest))) : W p l e R s m args below meth c H locs cells slots Q (F0 m pc ls (.int (nI (row)) :: .ref (a 7) :: rest)) :=
  kgo_v (va_runV (As := [.int (nI (row))]) (rest := rest) S (c_X1_clear_inFlight l D cy a X σ row hrow H.size) (cwV 1 S.2.2.2.2 (gw_good_1 wm_408 (gw_good_1 wm_363 (gw_good_1 wm_21 (gw_good_1 wm_49 (gw_good_in wm_364))))) rfl rfl rfl (by decide +kernel) hR) ⟨kblind nestC_ok, crecv_inFlight hK hP, kpre nestC_ok hN hK hP hD⟩ rfl rfl hsz rfl (lv_room hW) hdg hfc) hD hS hA kk
set_option maxHeartbeats 400000 in
set_option maxRecDepth 100000 in
theorem c_X1_costFor_inFlight (l : Launch) (D : va_G) (cy : Nat → ClassId) (a : Nat → Nat) (X : va_W) (σ : CS) (row : Nat) (w : Nat) (hrow : row < 512) : MetI l yX1_costFor cX1_costFor 3 .int (kRm 0 0 0) D (tyA cy) nestC [.ref (a 7), .int (nI (row)), .int (nI (w))] (X ++ cB cy a σ) (X ++ cB cy a σ) (costF (σ.2 1 row) w) 0 0 := by
  intro sz
  refine kmet (own := RX1) (by decide) rfl (Nat.le_of_ble_eq_true rfl) (fun p e s m args below meth c S hr hlk hK hN hP hD hsz hA hnm ls hl => ?_)
  have hS : va_S (va_A (X ++ cB cy a σ) sz) s.heap s.heap [] := va_S.rf
  have hl : lv_has ls 3 [(0, .ref (a 7)), (1, .int (nI (row))), (2, .int (nI (w)))] := hl
  refine lv_aload_n S.1 S.2.1 dX1_costFor_0 rfl (lv_at hl 0 rfl) ?_
  refine cf_inFlight_costs S hK hP dX1_costFor_1 ?_
  refine lv_iload_n S.1 S.2.1 dX1_costFor_4 rfl (lv_at hl 1 rfl) ?_
  refine ca_inCosts S hK hP (j := row) (by omega) dX1_costFor_5 ?_
  refine lv_bipush (v := (nI 6)) S.1 S.2.1 dX1_costFor_6 (by decide) ?_
  refine lv_iload_n S.1 S.2.1 dX1_costFor_8 rfl (lv_at hl 2 rfl) ?_
  refine lv_imul S.1 S.2.1 dX1_costFor_9 ?_
  refine k_top (pk_mul _ _) ?_
  refine lv_lshr (v := (σ.2 1 row) >>> (((nI (6 * w))).toInt64 &&& 63)) S.1 S.2.1 dX1_costFor_10 rfl ?_
  refine lv_l2i (v := ((σ.2 1 row) >>> (((nI (6 * w))).toInt64 &&& 63)).toInt32) S.1 S.2.1 dX1_costFor_11 rfl ?_
  refine lv_bipush (v := (nI 63)) S.1 S.2.1 dX1_costFor_12 (by decide) ?_
  refine lv_iand S.1 S.2.1 dX1_costFor_14 ?_
  exact kret_i S hr hlk hP hD hS (by first | (simp only [costF, reduceIte, Bool.false_eq_true, eq_self_iff_true, if_true, if_false]; done) | with_reducible rfl) dX1_costFor_15
theorem call_X1_costFor_inFlight_X2 {p : Program} {l : Launch} {e : Env} {R : Room} {s : State} {m : MethodId} {args : Array Value} {below : List Frame} {meth : Method} {c : Code} {H : Heap} {locs : List Loc} {cells slots : Nat} {Q : State → Prop} {cc : ByteArray} {pc nL : Nat} {ls : Array Slot} {rest : List Value} {D : va_G} {A : Nat → Prop} {w0 : Cond} {X : va_W} {cy : Nat → ClassId} {a : Nat → Nat} {σ : CS} (S : CallFix p m c cc nL s args (w0 :: gw) RX2) (hK : va_K D vwCl (tyA cy) s) (hN : kN nestC s) (hP : va_P D vwCl (X ++ cB cy a σ) H) (hD : va_D A (X ++ cB cy a σ)) (hS : va_S A s.heap H locs) (hA : ∀ q, s.heap.size ≤ q → A q) {row : Nat} {w : Nat} (hrow : row < 512) (hsz : ls.size = nL) (hW : (rest.map fun v => v.category).sum ≤ 8) (hR : 0 + 1 ≤ R.frames ∧ 8 + (3 + 11) + 32 * 0 ≤ R.locals) (hdg : decode cc pc = .ok (.invokevirtual 143, 3)) (hfc : cells ≤ R.cells ∧ slots ≤ R.slots)
    (kk : ∀ (H1 : Heap) (locs1 : List Loc), va_P D vwCl (X ++ cB cy a σ) H1 → va_D A (X ++ cB cy a σ) → va_S A s.heap H1 locs1 → W p l e R s m args below meth c H1 locs1 cells slots Q (F0 m (pc + 3) ls (.int (costF (σ.2 1 row) w) :: rest))) : W p l e R s m args below meth c H locs cells slots Q (F0 m pc ls (.int (nI (w)) :: .int (nI (row)) :: .ref (a 7) :: rest)) :=
  kgo_i (va_runVN (As := [.int (nI (row)), .int (nI (w))]) (rest := rest) S (c_X1_costFor_inFlight l D cy a X σ row w hrow H.size) ⟨va_cnB 2 S.2.2.2.2 (gw_good_in wm_151) rfl rfl rfl (hN _ nc_6) (S.2.2.2.2 _ (List.mem_cons_of_mem _ wm_49)) (by decide +kernel) hR, (S.2.2.2.2 _ (List.mem_cons_of_mem _ wm_150)), (S.2.2.2.2 _ (List.mem_cons_of_mem _ wm_1))⟩ ⟨kblind nestC_ok, crecv_inFlight hK hP, kpre nestC_ok hN hK hP hD⟩ rfl rfl hsz rfl (lv_room hW) hdg hfc) hD hS hA kk
theorem call_X1_costFor_inFlight_X1 {p : Program} {l : Launch} {e : Env} {R : Room} {s : State} {m : MethodId} {args : Array Value} {below : List Frame} {meth : Method} {c : Code} {H : Heap} {locs : List Loc} {cells slots : Nat} {Q : State → Prop} {cc : ByteArray} {pc nL : Nat} {ls : Array Slot} {rest : List Value} {D : va_G} {A : Nat → Prop} {w0 : Cond} {X : va_W} {cy : Nat → ClassId} {a : Nat → Nat} {σ : CS} (S : CallFix p m c cc nL s args (w0 :: gw) RX1) (hK : va_K D vwCl (tyA cy) s) (hN : kN nestC s) (hP : va_P D vwCl (X ++ cB cy a σ) H) (hD : va_D A (X ++ cB cy a σ)) (hS : va_S A s.heap H locs) (hA : ∀ q, s.heap.size ≤ q → A q) {row : Nat} {w : Nat} (hrow : row < 512) (hsz : ls.size = nL) (hW : (rest.map fun v => v.category).sum ≤ 8) (hR : 0 + 1 ≤ R.frames ∧ 8 + (3 + 11) + 32 * 0 ≤ R.locals) (hdg : decode cc pc = .ok (.invokevirtual 26, 3)) (hfc : cells ≤ R.cells ∧ slots ≤ R.slots)
    (kk : ∀ (H1 : Heap) (locs1 : List Loc), va_P D vwCl (X ++ cB cy a σ) H1 → va_D A (X ++ cB cy a σ) → va_S A s.heap H1 locs1 → W p l e R s m args below meth c H1 locs1 cells slots Q (F0 m (pc + 3) ls (.int (costF (σ.2 1 row) w) :: rest))) : W p l e R s m args below meth c H locs cells slots Q (F0 m pc ls (.int (nI (w)) :: .int (nI (row)) :: .ref (a 7) :: rest)) :=
  kgo_i (va_runV (As := [.int (nI (row)), .int (nI (w))]) (rest := rest) S (c_X1_costFor_inFlight l D cy a X σ row w hrow H.size) (cwV 2 S.2.2.2.2 (gw_good_1 wm_148 (gw_good_1 wm_150 (gw_good_1 wm_1 (gw_good_1 wm_49 (gw_good_in wm_151))))) rfl rfl rfl (by decide +kernel) hR) ⟨kblind nestC_ok, crecv_inFlight hK hP, kpre nestC_ok hN hK hP hD⟩ rfl rfl hsz rfl (lv_room hW) hdg hfc) hD hS hA kk
set_option maxHeartbeats 400000 in
set_option maxRecDepth 100000 in
theorem c_X1_costCount_inFlight (l : Launch) (D : va_G) (cy : Nat → ClassId) (a : Nat → Nat) (X : va_W) (σ : CS) (row : Nat) (hrow : row < 512) : MetI l yX1_costCount cX1_costCount 4 .int (kRm 1 0 0) D (tyA cy) nestC [.ref (a 7), .int (nI (row))] (X ++ cB cy a σ) (X ++ cB cy a σ) (cntF (σ.2 1 row)) 0 0 := by
  intro sz
  refine kmet (own := RX1) (by decide) rfl (Nat.le_of_ble_eq_true rfl) (fun p e s m args below meth c S hr hlk hK hN hP hD hsz hA hnm ls hl => ?_)
  have hS : va_S (va_A (X ++ cB cy a σ) sz) s.heap s.heap [] := va_S.rf
  have hl : lv_has ls 4 [(0, .ref (a 7)), (1, .int (nI (row)))] := hl
  refine lv_iconst (v := (nI 0)) S.1 S.2.1 dX1_costCount_0 (by decide) ?_
  refine lv_istore_n (lv' := [(2, .int (nI 0)), (0, .ref (a 7)), (1, .int (nI (row)))]) S.1 S.2.1 dX1_costCount_1 rfl hl (by decide) rfl (fun ls hl => ?_)
  refine lv_iconst (v := (nI 0)) S.1 S.2.1 dX1_costCount_2 (by decide) ?_
  refine lv_istore_n (lv' := [(3, .int (nI 0)), (2, .int (nI 0)), (0, .ref (a 7)), (1, .int (nI (row)))]) S.1 S.2.1 dX1_costCount_3 rfl hl (by decide) rfl (fun ls hl => ?_)
  have lp1 : ∀ (n1 i1 : Nat)  (x1_0 : Int32), i1 + n1 = 8 → itr (fCnt (σ.2 1 row)) n1 i1 x1_0 = itr (fCnt (σ.2 1 row)) 8 0 (nI 0) → ∀ (H : Heap) (locs : List Loc), va_P D vwCl (X ++ cB cy a σ) H → va_D (va_A (X ++ cB cy a σ) sz) (X ++ cB cy a σ) → va_S (va_A (X ++ cB cy a σ) sz) s.heap H locs → ∀ ls : Array Slot, lv_has ls 4 [(3, .int (nI (i1))), (2, .int (x1_0)), (0, .ref (a 7)), (1, .int (nI (row)))] → W p l e (kRm 1 0 0) s m args below meth c H locs 0 0 (MQ below (kQi D (X ++ cB cy a σ) (X ++ cB cy a σ) (cntF (σ.2 1 row)) sz) args s 0 0 (va_A (X ++ cB cy a σ) sz)) (F0 m 4 ls []) := by
    intro n1
    induction n1 with
    | zero =>
      intro i1 x1_0 hi1 he1 H locs hP hD hS ls hl
      have hi1 : i1 = 8 := by omega
      have he1 : x1_0 = itr (fCnt (σ.2 1 row)) 8 0 (nI 0) := he1
      refine lv_iload_n S.1 S.2.1 dX1_costCount_4 rfl (lv_at hl 0 rfl) ?_
      refine lv_bipush (v := (nI 8)) S.1 S.2.1 dX1_costCount_5 (by decide) ?_
      refine lv_icmp_ge (tgt := 28) S.1 S.2.1 dX1_costCount_7 (by decide) (fun _ => ?_) (fun c => absurd (nI_le (by omega) (by omega)) c)
      refine lv_iload_n S.1 S.2.1 dX1_costCount_28 rfl (lv_at hl 1 rfl) ?_
      exact kret_i S hr hlk hP hD hS (by first | (simp only [cntF, ← he1, reduceIte, Bool.false_eq_true, eq_self_iff_true, if_true, if_false]; done) | with_reducible rfl) dX1_costCount_29
    | succ n1 ih1 =>
      intro i1 x1_0 hi1 he1 H locs hP hD hS ls hl
      have hlt1 : i1 < 8 := by omega
      refine lv_iload_n S.1 S.2.1 dX1_costCount_4 rfl (lv_at hl 0 rfl) ?_
      refine lv_bipush (v := (nI 8)) S.1 S.2.1 dX1_costCount_5 (by decide) ?_
      refine lv_icmp_ge (tgt := 28) S.1 S.2.1 dX1_costCount_7 (by decide) (fun c => absurd c (nI_ge (by omega) (by omega))) (fun _ => ?_)
      refine lv_aload_n S.1 S.2.1 dX1_costCount_10 rfl (lv_at hl 2 rfl) ?_
      refine lv_iload_n S.1 S.2.1 dX1_costCount_11 rfl (lv_at hl 3 rfl) ?_
      refine lv_iload_n S.1 S.2.1 dX1_costCount_12 rfl (lv_at hl 0 rfl) ?_
      refine call_X1_costFor_inFlight_X1 S hK hN hP hD hS hA (row := row) (w := i1) (by omega) hl.1 (Nat.le_of_ble_eq_true rfl) ⟨Nat.le_of_ble_eq_true rfl, Nat.le_of_ble_eq_true rfl⟩ dX1_costCount_13 ⟨Nat.le_refl _, Nat.le_refl _⟩ (fun H locs hP hD hS => ?_)
      refine lv_if_le (tgt := 22) S.1 S.2.1 dX1_costCount_16 (by decide) (fun c4 => ?_) (fun c4 => ?_)
      · refine lv_iinc (v := (nI (i1 + 1))) (lv' := [(3, .int (nI (i1 + 1))), (2, .int (x1_0)), (0, .ref (a 7)), (1, .int (nI (row)))]) S.1 S.2.1 dX1_costCount_22 hl (k := 0) rfl (nI_add _ 1) (by decide) rfl (fun ls hl => ?_)
        refine lv_goto (tgt := 4) S.1 S.2.1 dX1_costCount_25 (by decide) ?_
        exact ih1 (i1 + 1)  ((x1_0)) (by omega) (itr_step he1 (by first | (simp only [fCnt, c4, reduceIte, Bool.false_eq_true, eq_self_iff_true, if_true, if_false]; done) | with_reducible rfl)) _ _ hP hD hS _ (lv_sub hl [0, 1, 2, 3] rfl)
      · refine lv_iinc (v := ((x1_0) + (Int32.ofInt (1)))) (lv' := [(2, .int ((x1_0) + (Int32.ofInt (1)))), (3, .int (nI (i1))), (0, .ref (a 7)), (1, .int (nI (row)))]) S.1 S.2.1 dX1_costCount_19 hl (k := 1) rfl rfl (by decide) rfl (fun ls hl => ?_)
        refine lv_iinc (v := (nI (i1 + 1))) (lv' := [(3, .int (nI (i1 + 1))), (2, .int ((x1_0) + (Int32.ofInt (1)))), (0, .ref (a 7)), (1, .int (nI (row)))]) S.1 S.2.1 dX1_costCount_22 hl (k := 1) rfl (nI_add _ 1) (by decide) rfl (fun ls hl => ?_)
        refine lv_goto (tgt := 4) S.1 S.2.1 dX1_costCount_25 (by decide) ?_
        exact ih1 (i1 + 1)  (((x1_0) + (Int32.ofInt (1)))) (by omega) (itr_step he1 (by first | (simp only [fCnt, c4, reduceIte, Bool.false_eq_true, eq_self_iff_true, if_true, if_false]; done) | with_reducible rfl)) _ _ hP hD hS _ (lv_sub hl [0, 1, 2, 3] rfl)
  exact lp1 8 0  ((nI 0)) (by omega) rfl _ _ hP hD hS _ (lv_sub hl [0, 1, 2, 3] rfl)
theorem call_X1_costCount_inFlight {p : Program} {l : Launch} {e : Env} {R : Room} {s : State} {m : MethodId} {args : Array Value} {below : List Frame} {meth : Method} {c : Code} {H : Heap} {locs : List Loc} {cells slots : Nat} {Q : State → Prop} {cc : ByteArray} {pc nL : Nat} {ls : Array Slot} {rest : List Value} {D : va_G} {A : Nat → Prop} {w0 : Cond} {X : va_W} {cy : Nat → ClassId} {a : Nat → Nat} {σ : CS} (S : CallFix p m c cc nL s args (w0 :: gw) RX2) (hK : va_K D vwCl (tyA cy) s) (hN : kN nestC s) (hP : va_P D vwCl (X ++ cB cy a σ) H) (hD : va_D A (X ++ cB cy a σ)) (hS : va_S A s.heap H locs) (hA : ∀ q, s.heap.size ≤ q → A q) {row : Nat} (hrow : row < 512) (hsz : ls.size = nL) (hW : (rest.map fun v => v.category).sum ≤ 8) (hR : 1 + 1 ≤ R.frames ∧ 8 + (4 + 11) + 32 * 1 ≤ R.locals) (hdg : decode cc pc = .ok (.invokevirtual 139, 3)) (hfc : cells ≤ R.cells ∧ slots ≤ R.slots)
    (kk : ∀ (H1 : Heap) (locs1 : List Loc), va_P D vwCl (X ++ cB cy a σ) H1 → va_D A (X ++ cB cy a σ) → va_S A s.heap H1 locs1 → W p l e R s m args below meth c H1 locs1 cells slots Q (F0 m (pc + 3) ls (.int (cntF (σ.2 1 row)) :: rest))) : W p l e R s m args below meth c H locs cells slots Q (F0 m pc ls (.int (nI (row)) :: .ref (a 7) :: rest)) :=
  kgo_i (va_runVN (As := [.int (nI (row))]) (rest := rest) S (c_X1_costCount_inFlight l D cy a X σ row hrow H.size) ⟨va_cnB 1 S.2.2.2.2 (gw_good_in wm_147) rfl rfl rfl (hN _ nc_5) (S.2.2.2.2 _ (List.mem_cons_of_mem _ wm_49)) (by decide +kernel) hR, (S.2.2.2.2 _ (List.mem_cons_of_mem _ wm_146)), (S.2.2.2.2 _ (List.mem_cons_of_mem _ wm_0))⟩ ⟨kblind nestC_ok, crecv_inFlight hK hP, kpre nestC_ok hN hK hP hD⟩ rfl rfl hsz rfl (lv_room hW) hdg hfc) hD hS hA kk
set_option maxHeartbeats 400000 in
set_option maxRecDepth 100000 in
theorem c_X1_packed (l : Launch) (D : va_G) (cy : Nat → ClassId) (a : Nat → Nat) (X : va_W) (σ : CS) (x : Int32) (w : Nat)  : MetL l yX1_packed cX1_packed 2 (kRm 0 0 0) D (tyA cy) nestC [.int (x), .int (nI (w))] (X ++ cB cy a σ) (X ++ cB cy a σ) (packF x w) 0 0 := by
  intro sz
  refine kmet (own := RX1) (by decide) rfl (Nat.le_of_ble_eq_true rfl) (fun p e s m args below meth c S hr hlk hK hN hP hD hsz hA hnm ls hl => ?_)
  have hS : va_S (va_A (X ++ cB cy a σ) sz) s.heap s.heap [] := va_S.rf
  have hl : lv_has ls 2 [(0, .int (x)), (1, .int (nI (w)))] := hl
  refine lv_iload_n S.1 S.2.1 dX1_packed_0 rfl (lv_at hl 0 rfl) ?_
  refine lv_i2l (v := (x).toInt64) S.1 S.2.1 dX1_packed_1 rfl ?_
  refine lv_bipush (v := (nI 6)) S.1 S.2.1 dX1_packed_2 (by decide) ?_
  refine lv_iload_n S.1 S.2.1 dX1_packed_4 rfl (lv_at hl 1 rfl) ?_
  refine lv_imul S.1 S.2.1 dX1_packed_5 ?_
  refine k_top (pk_mul _ _) ?_
  refine lv_lshl (v := ((x).toInt64) <<< (((nI (6 * w))).toInt64 &&& 63)) S.1 S.2.1 dX1_packed_6 rfl ?_
  exact kret_l S hr hlk hP hD hS (by first | (simp only [packF, reduceIte, Bool.false_eq_true, eq_self_iff_true, if_true, if_false]; done) | with_reducible rfl) dX1_packed_7
theorem call_X1_packed {p : Program} {l : Launch} {e : Env} {R : Room} {s : State} {m : MethodId} {args : Array Value} {below : List Frame} {meth : Method} {c : Code} {H : Heap} {locs : List Loc} {cells slots : Nat} {Q : State → Prop} {cc : ByteArray} {pc nL : Nat} {ls : Array Slot} {rest : List Value} {D : va_G} {A : Nat → Prop} {w0 : Cond} {X : va_W} {cy : Nat → ClassId} {a : Nat → Nat} {σ : CS} (S : CallFix p m c cc nL s args (w0 :: gw) RX2) (hK : va_K D vwCl (tyA cy) s) (hN : kN nestC s) (hP : va_P D vwCl (X ++ cB cy a σ) H) (hD : va_D A (X ++ cB cy a σ)) (hS : va_S A s.heap H locs) (hA : ∀ q, s.heap.size ≤ q → A q) {x : Int32} {w : Nat}  (hsz : ls.size = nL) (hW : (rest.map fun v => v.category).sum ≤ 8) (hR : 0 + 1 ≤ R.frames ∧ 8 + (2 + 11) + 32 * 0 ≤ R.locals) (hdg : decode cc pc = .ok (.invokestatic 210, 3)) (hfc : cells ≤ R.cells ∧ slots ≤ R.slots)
    (kk : ∀ (H1 : Heap) (locs1 : List Loc), va_P D vwCl (X ++ cB cy a σ) H1 → va_D A (X ++ cB cy a σ) → va_S A s.heap H1 locs1 → W p l e R s m args below meth c H1 locs1 cells slots Q (F0 m (pc + 3) ls (.long (packF x w) :: rest))) : W p l e R s m args below meth c H locs cells slots Q (F0 m pc ls (.int (nI (w)) :: .int (x) :: rest)) :=
  kgo_l (va_runSN (As := [.int (x), .int (nI (w))]) (rest := rest) S (c_X1_packed l D cy a X σ x w  H.size) ⟨va_cnB 2 S.2.2.2.2 (gw_good_in wm_325) rfl rfl rfl (hN _ nc_7) (S.2.2.2.2 _ (List.mem_cons_of_mem _ wm_49)) (by decide +kernel) hR, (S.2.2.2.2 _ (List.mem_cons_of_mem _ wm_324)), trivial⟩ ⟨kblind nestC_ok, kpre nestC_ok hN hK hP hD⟩ rfl rfl hsz rfl (lv_room hW) hdg hfc) hD hS hA kk
set_option maxHeartbeats 400000 in
set_option maxRecDepth 100000 in
theorem c_X2_isNode (l : Launch) (D : va_G) (cy : Nat → ClassId) (a : Nat → Nat) (X : va_W) (σ : CS) (x : Int32)  : MetI l yX2_isNode cX2_isNode 1 .boolean (kRm 0 0 0) D (tyA cy) nestC [.int (x)] (X ++ cB cy a σ) (X ++ cB cy a σ) (b2i (isN x)) 0 0 := by
  intro sz
  refine kmet (own := RX2) (by decide) rfl (Nat.le_of_ble_eq_true rfl) (fun p e s m args below meth c S hr hlk hK hN hP hD hsz hA hnm ls hl => ?_)
  have hS : va_S (va_A (X ++ cB cy a σ) sz) s.heap s.heap [] := va_S.rf
  have hl : lv_has ls 1 [(0, .int (x))] := hl
  refine lv_iload_n S.1 S.2.1 dX2_isNode_0 rfl (lv_at hl 0 rfl) ?_
  refine lv_if_lt (tgt := 14) S.1 S.2.1 dX2_isNode_1 (by decide) (fun c1 => ?_) (fun c1 => ?_)
  · refine lv_iconst (v := (nI 0)) S.1 S.2.1 dX2_isNode_14 (by decide) ?_
    exact kret_z S hr hlk hP hD hS (by first | rfl | exact b2i_nar _) (by rw [show isN x = false from (by first | (simp only [isN, c1, reduceIte, Bool.false_eq_true, eq_self_iff_true, if_true, if_false]; done) | with_reducible rfl)]; decide) dX2_isNode_15
  · refine lv_iload_n S.1 S.2.1 dX2_isNode_4 rfl (lv_at hl 0 rfl) ?_
    refine lv_bipush (v := (nI 8)) S.1 S.2.1 dX2_isNode_5 (by decide) ?_
    refine lv_icmp_ge (tgt := 14) S.1 S.2.1 dX2_isNode_7 (by decide) (fun c2 => ?_) (fun c2 => ?_)
    · refine lv_iconst (v := (nI 0)) S.1 S.2.1 dX2_isNode_14 (by decide) ?_
      exact kret_z S hr hlk hP hD hS (by first | rfl | exact b2i_nar _) (by rw [show isN x = false from (by first | (simp only [isN, c1, c2, reduceIte, Bool.false_eq_true, eq_self_iff_true, if_true, if_false]; done) | with_reducible rfl)]; decide) dX2_isNode_15
    · refine lv_iconst (v := (nI 1)) S.1 S.2.1 dX2_isNode_10 (by decide) ?_
      refine lv_goto (tgt := 15) S.1 S.2.1 dX2_isNode_11 (by decide) ?_
      exact kret_z S hr hlk hP hD hS (by first | rfl | exact b2i_nar _) (by rw [show isN x = true from (by first | (simp only [isN, c1, c2, reduceIte, Bool.false_eq_true, eq_self_iff_true, if_true, if_false]; done) | with_reducible rfl)]; decide) dX2_isNode_15
theorem call_X2_isNode {p : Program} {l : Launch} {e : Env} {R : Room} {s : State} {m : MethodId} {args : Array Value} {below : List Frame} {meth : Method} {c : Code} {H : Heap} {locs : List Loc} {cells slots : Nat} {Q : State → Prop} {cc : ByteArray} {pc nL : Nat} {ls : Array Slot} {rest : List Value} {D : va_G} {A : Nat → Prop} {w0 : Cond} {X : va_W} {cy : Nat → ClassId} {a : Nat → Nat} {σ : CS} (S : CallFix p m c cc nL s args (w0 :: gw) RX2) (hK : va_K D vwCl (tyA cy) s) (hN : kN nestC s) (hP : va_P D vwCl (X ++ cB cy a σ) H) (hD : va_D A (X ++ cB cy a σ)) (hS : va_S A s.heap H locs) (hA : ∀ q, s.heap.size ≤ q → A q) {x : Int32}  (hsz : ls.size = nL) (hW : (rest.map fun v => v.category).sum ≤ 8) (hR : 0 + 1 ≤ R.frames ∧ 8 + (1 + 11) + 32 * 0 ≤ R.locals) (hdg : decode cc pc = .ok (.invokestatic 50, 3)) (hfc : cells ≤ R.cells ∧ slots ≤ R.slots)
    (kk : ∀ (H1 : Heap) (locs1 : List Loc), va_P D vwCl (X ++ cB cy a σ) H1 → va_D A (X ++ cB cy a σ) → va_S A s.heap H1 locs1 → W p l e R s m args below meth c H1 locs1 cells slots Q (F0 m (pc + 3) ls (.int (b2i (isN x)) :: rest))) : W p l e R s m args below meth c H locs cells slots Q (F0 m pc ls (.int (x) :: rest)) :=
  kgo_i (va_runS (As := [.int (x)]) (rest := rest) S (c_X2_isNode l D cy a X σ x  H.size) (cwS 1 S.2.2.2.2 (gw_good_1 wm_138 (gw_good_1 wm_139 (gw_good_1 wm_48 (gw_good_in wm_140)))) rfl rfl rfl (by decide +kernel) hR) ⟨kblind nestC_ok, kpre nestC_ok hN hK hP hD⟩ rfl rfl hsz rfl (lv_room hW) hdg hfc) hD hS hA kk
set_option maxHeartbeats 400000 in
set_option maxRecDepth 100000 in
theorem c_X2_pair (l : Launch) (D : va_G) (cy : Nat → ClassId) (a : Nat → Nat) (X : va_W) (σ : CS) (u : Nat) (v : Nat)  : MetI l yX2_pair cX2_pair 2 .int (kRm 0 0 0) D (tyA cy) nestC [.int (nI (u)), .int (nI (v))] (X ++ cB cy a σ) (X ++ cB cy a σ) (nI (u * 8 + v)) 0 0 := by
  intro sz
  refine kmet (own := RX2) (by decide) rfl (Nat.le_of_ble_eq_true rfl) (fun p e s m args below meth c S hr hlk hK hN hP hD hsz hA hnm ls hl => ?_)
  have hS : va_S (va_A (X ++ cB cy a σ) sz) s.heap s.heap [] := va_S.rf
  have hl : lv_has ls 2 [(0, .int (nI (u))), (1, .int (nI (v)))] := hl
  refine lv_iload_n S.1 S.2.1 dX2_pair_0 rfl (lv_at hl 0 rfl) ?_
  refine lv_bipush (v := (nI 8)) S.1 S.2.1 dX2_pair_1 (by decide) ?_
  refine lv_imul S.1 S.2.1 dX2_pair_3 ?_
  refine k_top (pk_mul _ _) ?_
  refine lv_iload_n S.1 S.2.1 dX2_pair_4 rfl (lv_at hl 1 rfl) ?_
  refine lv_iadd S.1 S.2.1 dX2_pair_5 ?_
  refine k_top (nI_add _ _) ?_
  exact kret_i S hr hlk hP hD hS (by first | (simp only [u, reduceIte, Bool.false_eq_true, eq_self_iff_true, if_true, if_false]; done) | with_reducible rfl) dX2_pair_6
theorem call_X2_pair {p : Program} {l : Launch} {e : Env} {R : Room} {s : State} {m : MethodId} {args : Array Value} {below : List Frame} {meth : Method} {c : Code} {H : Heap} {locs : List Loc} {cells slots : Nat} {Q : State → Prop} {cc : ByteArray} {pc nL : Nat} {ls : Array Slot} {rest : List Value} {D : va_G} {A : Nat → Prop} {w0 : Cond} {X : va_W} {cy : Nat → ClassId} {a : Nat → Nat} {σ : CS} (S : CallFix p m c cc nL s args (w0 :: gw) RX2) (hK : va_K D vwCl (tyA cy) s) (hN : kN nestC s) (hP : va_P D vwCl (X ++ cB cy a σ) H) (hD : va_D A (X ++ cB cy a σ)) (hS : va_S A s.heap H locs) (hA : ∀ q, s.heap.size ≤ q → A q) {u : Nat} {v : Nat}  (hsz : ls.size = nL) (hW : (rest.map fun v => v.category).sum ≤ 8) (hR : 0 + 1 ≤ R.frames ∧ 8 + (2 + 11) + 32 * 0 ≤ R.locals) (hdg : decode cc pc = .ok (.invokestatic 86, 3)) (hfc : cells ≤ R.cells ∧ slots ≤ R.slots)
    (kk : ∀ (H1 : Heap) (locs1 : List Loc), va_P D vwCl (X ++ cB cy a σ) H1 → va_D A (X ++ cB cy a σ) → va_S A s.heap H1 locs1 → W p l e R s m args below meth c H1 locs1 cells slots Q (F0 m (pc + 3) ls (.int (nI (u * 8 + v)) :: rest))) : W p l e R s m args below meth c H locs cells slots Q (F0 m pc ls (.int (nI (v)) :: .int (nI (u)) :: rest)) :=
  kgo_i (va_runS (As := [.int (nI (u)), .int (nI (v))]) (rest := rest) S (c_X2_pair l D cy a X σ u v  H.size) (cwS 2 S.2.2.2.2 (gw_good_1 wm_201 (gw_good_1 wm_202 (gw_good_1 wm_48 (gw_good_in wm_203)))) rfl rfl rfl (by decide +kernel) hR) ⟨kblind nestC_ok, kpre nestC_ok hN hK hP hD⟩ rfl rfl hsz rfl (lv_room hW) hdg hfc) hD hS hA kk
set_option maxHeartbeats 400000 in
set_option maxRecDepth 100000 in
theorem c_X2_knownRow (l : Launch) (D : va_G) (cy : Nat → ClassId) (a : Nat → Nat) (X : va_W) (σ : CS) (u : Nat) (v : Nat)  : MetI l yX2_knownRow cX2_knownRow 2 .int (kRm 0 0 0) D (tyA cy) nestC [.int (nI (u)), .int (nI (v))] (X ++ cB cy a σ) (X ++ cB cy a σ) (nI (u * 8 + v)) 0 0 := by
  intro sz
  refine kmet (own := RX2) (by decide) rfl (Nat.le_of_ble_eq_true rfl) (fun p e s m args below meth c S hr hlk hK hN hP hD hsz hA hnm ls hl => ?_)
  have hS : va_S (va_A (X ++ cB cy a σ) sz) s.heap s.heap [] := va_S.rf
  have hl : lv_has ls 2 [(0, .int (nI (u))), (1, .int (nI (v)))] := hl
  refine lv_iload_n S.1 S.2.1 dX2_knownRow_0 rfl (lv_at hl 0 rfl) ?_
  refine lv_bipush (v := (nI 8)) S.1 S.2.1 dX2_knownRow_1 (by decide) ?_
  refine lv_imul S.1 S.2.1 dX2_knownRow_3 ?_
  refine k_top (pk_mul _ _) ?_
  refine lv_iload_n S.1 S.2.1 dX2_knownRow_4 rfl (lv_at hl 1 rfl) ?_
  refine lv_iadd S.1 S.2.1 dX2_knownRow_5 ?_
  refine k_top (nI_add _ _) ?_
  exact kret_i S hr hlk hP hD hS (by first | (simp only [u, reduceIte, Bool.false_eq_true, eq_self_iff_true, if_true, if_false]; done) | with_reducible rfl) dX2_knownRow_6
theorem call_X2_knownRow {p : Program} {l : Launch} {e : Env} {R : Room} {s : State} {m : MethodId} {args : Array Value} {below : List Frame} {meth : Method} {c : Code} {H : Heap} {locs : List Loc} {cells slots : Nat} {Q : State → Prop} {cc : ByteArray} {pc nL : Nat} {ls : Array Slot} {rest : List Value} {D : va_G} {A : Nat → Prop} {w0 : Cond} {X : va_W} {cy : Nat → ClassId} {a : Nat → Nat} {σ : CS} (S : CallFix p m c cc nL s args (w0 :: gw) RX2) (hK : va_K D vwCl (tyA cy) s) (hN : kN nestC s) (hP : va_P D vwCl (X ++ cB cy a σ) H) (hD : va_D A (X ++ cB cy a σ)) (hS : va_S A s.heap H locs) (hA : ∀ q, s.heap.size ≤ q → A q) {u : Nat} {v : Nat}  (hsz : ls.size = nL) (hW : (rest.map fun v => v.category).sum ≤ 8) (hR : 0 + 1 ≤ R.frames ∧ 8 + (2 + 11) + 32 * 0 ≤ R.locals) (hdg : decode cc pc = .ok (.invokestatic 107, 3)) (hfc : cells ≤ R.cells ∧ slots ≤ R.slots)
    (kk : ∀ (H1 : Heap) (locs1 : List Loc), va_P D vwCl (X ++ cB cy a σ) H1 → va_D A (X ++ cB cy a σ) → va_S A s.heap H1 locs1 → W p l e R s m args below meth c H1 locs1 cells slots Q (F0 m (pc + 3) ls (.int (nI (u * 8 + v)) :: rest))) : W p l e R s m args below meth c H locs cells slots Q (F0 m pc ls (.int (nI (v)) :: .int (nI (u)) :: rest)) :=
  kgo_i (va_runS (As := [.int (nI (u)), .int (nI (v))]) (rest := rest) S (c_X2_knownRow l D cy a X σ u v  H.size) (cwS 2 S.2.2.2.2 (gw_good_1 wm_141 (gw_good_1 wm_142 (gw_good_1 wm_48 (gw_good_in wm_143)))) rfl rfl rfl (by decide +kernel) hR) ⟨kblind nestC_ok, kpre nestC_ok hN hK hP hD⟩ rfl rfl hsz rfl (lv_room hW) hdg hfc) hD hS hA kk
set_option maxHeartbeats 400000 in
set_option maxRecDepth 100000 in
theorem c_X2_flightRow (l : Launch) (D : va_G) (cy : Nat → ClassId) (a : Nat → Nat) (X : va_W) (σ : CS) (u : Nat) (v : Nat) (o : Nat)  : MetI l yX2_flightRow cX2_flightRow 3 .int (kRm 0 0 0) D (tyA cy) nestC [.int (nI (u)), .int (nI (v)), .int (nI (o))] (X ++ cB cy a σ) (X ++ cB cy a σ) (nI ((u * 8 + v) * 8 + o)) 0 0 := by
  intro sz
  refine kmet (own := RX2) (by decide) rfl (Nat.le_of_ble_eq_true rfl) (fun p e s m args below meth c S hr hlk hK hN hP hD hsz hA hnm ls hl => ?_)
  have hS : va_S (va_A (X ++ cB cy a σ) sz) s.heap s.heap [] := va_S.rf
  have hl : lv_has ls 3 [(0, .int (nI (u))), (1, .int (nI (v))), (2, .int (nI (o)))] := hl
  refine lv_iload_n S.1 S.2.1 dX2_flightRow_0 rfl (lv_at hl 0 rfl) ?_
  refine lv_bipush (v := (nI 8)) S.1 S.2.1 dX2_flightRow_1 (by decide) ?_
  refine lv_imul S.1 S.2.1 dX2_flightRow_3 ?_
  refine k_top (pk_mul _ _) ?_
  refine lv_iload_n S.1 S.2.1 dX2_flightRow_4 rfl (lv_at hl 1 rfl) ?_
  refine lv_iadd S.1 S.2.1 dX2_flightRow_5 ?_
  refine k_top (nI_add _ _) ?_
  refine lv_bipush (v := (nI 8)) S.1 S.2.1 dX2_flightRow_6 (by decide) ?_
  refine lv_imul S.1 S.2.1 dX2_flightRow_8 ?_
  refine k_top (pk_mul _ _) ?_
  refine lv_iload_n S.1 S.2.1 dX2_flightRow_9 rfl (lv_at hl 2 rfl) ?_
  refine lv_iadd S.1 S.2.1 dX2_flightRow_10 ?_
  refine k_top (nI_add _ _) ?_
  exact kret_i S hr hlk hP hD hS (by first | (simp only [u, reduceIte, Bool.false_eq_true, eq_self_iff_true, if_true, if_false]; done) | with_reducible rfl) dX2_flightRow_11
theorem call_X2_flightRow {p : Program} {l : Launch} {e : Env} {R : Room} {s : State} {m : MethodId} {args : Array Value} {below : List Frame} {meth : Method} {c : Code} {H : Heap} {locs : List Loc} {cells slots : Nat} {Q : State → Prop} {cc : ByteArray} {pc nL : Nat} {ls : Array Slot} {rest : List Value} {D : va_G} {A : Nat → Prop} {w0 : Cond} {X : va_W} {cy : Nat → ClassId} {a : Nat → Nat} {σ : CS} (S : CallFix p m c cc nL s args (w0 :: gw) RX2) (hK : va_K D vwCl (tyA cy) s) (hN : kN nestC s) (hP : va_P D vwCl (X ++ cB cy a σ) H) (hD : va_D A (X ++ cB cy a σ)) (hS : va_S A s.heap H locs) (hA : ∀ q, s.heap.size ≤ q → A q) {u : Nat} {v : Nat} {o : Nat}  (hsz : ls.size = nL) (hW : (rest.map fun v => v.category).sum ≤ 8) (hR : 0 + 1 ≤ R.frames ∧ 8 + (3 + 11) + 32 * 0 ≤ R.locals) (hdg : decode cc pc = .ok (.invokestatic 191, 3)) (hfc : cells ≤ R.cells ∧ slots ≤ R.slots)
    (kk : ∀ (H1 : Heap) (locs1 : List Loc), va_P D vwCl (X ++ cB cy a σ) H1 → va_D A (X ++ cB cy a σ) → va_S A s.heap H1 locs1 → W p l e R s m args below meth c H1 locs1 cells slots Q (F0 m (pc + 3) ls (.int (nI ((u * 8 + v) * 8 + o)) :: rest))) : W p l e R s m args below meth c H locs cells slots Q (F0 m pc ls (.int (nI (o)) :: .int (nI (v)) :: .int (nI (u)) :: rest)) :=
  kgo_i (va_runS (As := [.int (nI (u)), .int (nI (v)), .int (nI (o))]) (rest := rest) S (c_X2_flightRow l D cy a X σ u v o  H.size) (cwS 3 S.2.2.2.2 (gw_good_1 wm_338 (gw_good_1 wm_339 (gw_good_1 wm_48 (gw_good_in wm_340)))) rfl rfl rfl (by decide +kernel) hR) ⟨kblind nestC_ok, kpre nestC_ok hN hK hP hD⟩ rfl rfl hsz rfl (lv_room hW) hdg hfc) hD hS hA kk
set_option maxHeartbeats 400000 in
set_option maxRecDepth 100000 in
theorem c_X2_carries (l : Launch) (D : va_G) (cy : Nat → ClassId) (a : Nat → Nat) (X : va_W) (σ : CS) (u : Nat) (v : Nat) (hu : u < 8) (hv : v < 8) : MetI l yX2_carries cX2_carries 3 .boolean (kRm 1 0 0) D (tyA cy) nestC [.ref (a 0), .int (nI (u)), .int (nI (v))] (X ++ cB cy a σ) (X ++ cB cy a σ) (b2i (carr σ u v)) 0 0 := by
  intro sz
  refine kmet (own := RX2) (by decide) rfl (Nat.le_of_ble_eq_true rfl) (fun p e s m args below meth c S hr hlk hK hN hP hD hsz hA hnm ls hl => ?_)
  have hS : va_S (va_A (X ++ cB cy a σ) sz) s.heap s.heap [] := va_S.rf
  have hl : lv_has ls 3 [(0, .ref (a 0)), (1, .int (nI (u))), (2, .int (nI (v)))] := hl
  refine lv_aload_n S.1 S.2.1 dX2_carries_0 rfl (lv_at hl 0 rfl) ?_
  refine cf_net_linkUp S hK hP dX2_carries_1 ?_
  refine lv_iload_n S.1 S.2.1 dX2_carries_4 rfl (lv_at hl 1 rfl) ?_
  refine lv_iload_n S.1 S.2.1 dX2_carries_5 rfl (lv_at hl 2 rfl) ?_
  refine call_X2_pair S hK hN hP hD hS hA (u := u) (v := v)  hl.1 (Nat.le_of_ble_eq_true rfl) ⟨Nat.le_of_ble_eq_true rfl, Nat.le_of_ble_eq_true rfl⟩ dX2_carries_6 ⟨Nat.le_refl _, Nat.le_refl _⟩ (fun H locs hP hD hS => ?_)
  refine ca_linkUp S hK hP (j := (u * 8 + v)) (by omega) dX2_carries_9 ?_
  refine lv_if_eq (tgt := 35) S.1 S.2.1 dX2_carries_10 (by decide) (fun c1 => ?_) (fun c1 => ?_)
  · refine lv_iconst (v := (nI 0)) S.1 S.2.1 dX2_carries_35 (by decide) ?_
    exact kret_z S hr hlk hP hD hS (by first | rfl | exact b2i_nar _) (by rw [show carr σ u v = false from (by first | (simp only [carr, eq_true c1, reduceIte, Bool.false_eq_true, eq_self_iff_true, if_true, if_false]; done) | with_reducible rfl)]; decide) dX2_carries_36
  · refine lv_aload_n S.1 S.2.1 dX2_carries_13 rfl (lv_at hl 0 rfl) ?_
    refine cf_net_there S hK hP dX2_carries_14 ?_
    refine lv_iload_n S.1 S.2.1 dX2_carries_17 rfl (lv_at hl 1 rfl) ?_
    refine ca_there S hK hP (j := u) (by omega) dX2_carries_18 ?_
    refine lv_if_eq (tgt := 35) S.1 S.2.1 dX2_carries_19 (by decide) (fun c2 => ?_) (fun c2 => ?_)
    · refine lv_iconst (v := (nI 0)) S.1 S.2.1 dX2_carries_35 (by decide) ?_
      exact kret_z S hr hlk hP hD hS (by first | rfl | exact b2i_nar _) (by rw [show carr σ u v = false from (by first | (simp only [carr, c1, eq_true c2, reduceIte, Bool.false_eq_true, eq_self_iff_true, if_true, if_false]; done) | with_reducible rfl)]; decide) dX2_carries_36
    · refine lv_aload_n S.1 S.2.1 dX2_carries_22 rfl (lv_at hl 0 rfl) ?_
      refine cf_net_there S hK hP dX2_carries_23 ?_
      refine lv_iload_n S.1 S.2.1 dX2_carries_26 rfl (lv_at hl 2 rfl) ?_
      refine ca_there S hK hP (j := v) (by omega) dX2_carries_27 ?_
      refine lv_if_eq (tgt := 35) S.1 S.2.1 dX2_carries_28 (by decide) (fun c3 => ?_) (fun c3 => ?_)
      · refine lv_iconst (v := (nI 0)) S.1 S.2.1 dX2_carries_35 (by decide) ?_
        exact kret_z S hr hlk hP hD hS (by first | rfl | exact b2i_nar _) (by rw [show carr σ u v = false from (by first | (simp only [carr, c1, c2, eq_true c3, reduceIte, Bool.false_eq_true, eq_self_iff_true, if_true, if_false]; done) | with_reducible rfl)]; decide) dX2_carries_36
      · refine lv_iconst (v := (nI 1)) S.1 S.2.1 dX2_carries_31 (by decide) ?_
        refine lv_goto (tgt := 36) S.1 S.2.1 dX2_carries_32 (by decide) ?_
        exact kret_z S hr hlk hP hD hS (by first | rfl | exact b2i_nar _) (by rw [show carr σ u v = true from (by first | (simp only [carr, c1, c2, c3, reduceIte, Bool.false_eq_true, eq_self_iff_true, if_true, if_false]; done) | with_reducible rfl)]; decide) dX2_carries_36
theorem call_X2_carries {p : Program} {l : Launch} {e : Env} {R : Room} {s : State} {m : MethodId} {args : Array Value} {below : List Frame} {meth : Method} {c : Code} {H : Heap} {locs : List Loc} {cells slots : Nat} {Q : State → Prop} {cc : ByteArray} {pc nL : Nat} {ls : Array Slot} {rest : List Value} {D : va_G} {A : Nat → Prop} {w0 : Cond} {X : va_W} {cy : Nat → ClassId} {a : Nat → Nat} {σ : CS} (S : CallFix p m c cc nL s args (w0 :: gw) RX2) (hK : va_K D vwCl (tyA cy) s) (hN : kN nestC s) (hP : va_P D vwCl (X ++ cB cy a σ) H) (hD : va_D A (X ++ cB cy a σ)) (hS : va_S A s.heap H locs) (hA : ∀ q, s.heap.size ≤ q → A q) {u : Nat} {v : Nat} (hu : u < 8) (hv : v < 8) (hsz : ls.size = nL) (hW : (rest.map fun v => v.category).sum ≤ 8) (hR : 1 + 1 ≤ R.frames ∧ 8 + (3 + 11) + 32 * 1 ≤ R.locals) (hdg : decode cc pc = .ok (.invokevirtual 101, 3)) (hfc : cells ≤ R.cells ∧ slots ≤ R.slots)
    (kk : ∀ (H1 : Heap) (locs1 : List Loc), va_P D vwCl (X ++ cB cy a σ) H1 → va_D A (X ++ cB cy a σ) → va_S A s.heap H1 locs1 → W p l e R s m args below meth c H1 locs1 cells slots Q (F0 m (pc + 3) ls (.int (b2i (carr σ u v)) :: rest))) : W p l e R s m args below meth c H locs cells slots Q (F0 m pc ls (.int (nI (v)) :: .int (nI (u)) :: .ref (a 0) :: rest)) :=
  kgo_i (va_runV (As := [.int (nI (u)), .int (nI (v))]) (rest := rest) S (c_X2_carries l D cy a X σ u v hu hv H.size) (cwV 2 S.2.2.2.2 (gw_good_1 wm_197 (gw_good_1 wm_199 (gw_good_1 wm_8 (gw_good_1 wm_48 (gw_good_in wm_200))))) rfl rfl rfl (by decide +kernel) hR) ⟨kblind nestC_ok, crecv_net hK hP, kpre nestC_ok hN hK hP hD⟩ rfl rfl hsz rfl (lv_room hW) hdg hfc) hD hS hA kk
set_option maxHeartbeats 400000 in
set_option maxRecDepth 100000 in
theorem c_X2_costsNow (l : Launch) (D : va_G) (cy : Nat → ClassId) (a : Nat → Nat) (X : va_W) (σ : CS) (u : Nat) (hu : u < 8) : MetL l yX2_costsNow cX2_costsNow 5 (kRm 2 0 0) D (tyA cy) nestC [.ref (a 0), .int (nI (u))] (X ++ cB cy a σ) (X ++ cB cy a σ) (cCosts σ u) 0 0 := by
  intro sz
  refine kmet (own := RX2) (by decide) rfl (Nat.le_of_ble_eq_true rfl) (fun p e s m args below meth c S hr hlk hK hN hP hD hsz hA hnm ls hl => ?_)
  have hS : va_S (va_A (X ++ cB cy a σ) sz) s.heap s.heap [] := va_S.rf
  have hl : lv_has ls 5 [(0, .ref (a 0)), (1, .int (nI (u)))] := hl
  refine lv_lconst (v := 0) S.1 S.2.1 dX2_costsNow_0 (by decide) ?_
  refine lv_lstore_n (lv' := [(2, .long (0)), (0, .ref (a 0)), (1, .int (nI (u)))]) S.1 S.2.1 dX2_costsNow_1 rfl hl (by decide) rfl (fun ls hl => ?_)
  refine lv_iconst (v := (nI 0)) S.1 S.2.1 dX2_costsNow_2 (by decide) ?_
  refine lv_istore (lv' := [(4, .int (nI 0)), (2, .long (0)), (0, .ref (a 0)), (1, .int (nI (u)))]) S.1 S.2.1 dX2_costsNow_3 hl (by decide) rfl (fun ls hl => ?_)
  have lp1 : ∀ (n1 i1 : Nat)  (x1_0 : Int64), i1 + n1 = 8 → itr (fCosts σ u) n1 i1 x1_0 = itr (fCosts σ u) 8 0 (0) → ∀ (H : Heap) (locs : List Loc), va_P D vwCl (X ++ cB cy a σ) H → va_D (va_A (X ++ cB cy a σ) sz) (X ++ cB cy a σ) → va_S (va_A (X ++ cB cy a σ) sz) s.heap H locs → ∀ ls : Array Slot, lv_has ls 5 [(4, .int (nI (i1))), (2, .long (x1_0)), (0, .ref (a 0)), (1, .int (nI (u)))] → W p l e (kRm 2 0 0) s m args below meth c H locs 0 0 (MQ below (kQl D (X ++ cB cy a σ) (X ++ cB cy a σ) (cCosts σ u) sz) args s 0 0 (va_A (X ++ cB cy a σ) sz)) (F0 m 5 ls []) := by
    intro n1
    induction n1 with
    | zero =>
      intro i1 x1_0 hi1 he1 H locs hP hD hS ls hl
      have hi1 : i1 = 8 := by omega
      have he1 : x1_0 = itr (fCosts σ u) 8 0 (0) := he1
      refine lv_iload S.1 S.2.1 dX2_costsNow_5 (lv_at hl 0 rfl) ?_
      refine lv_bipush (v := (nI 8)) S.1 S.2.1 dX2_costsNow_7 (by decide) ?_
      refine lv_icmp_ge (tgt := 47) S.1 S.2.1 dX2_costsNow_9 (by decide) (fun _ => ?_) (fun c => absurd (nI_le (by omega) (by omega)) c)
      refine lv_lload_n S.1 S.2.1 dX2_costsNow_47 rfl (lv_at hl 1 rfl) ?_
      exact kret_l S hr hlk hP hD hS (by first | (simp only [cCosts, ← he1, reduceIte, Bool.false_eq_true, eq_self_iff_true, if_true, if_false]; done) | with_reducible rfl) dX2_costsNow_48
    | succ n1 ih1 =>
      intro i1 x1_0 hi1 he1 H locs hP hD hS ls hl
      have hlt1 : i1 < 8 := by omega
      refine lv_iload S.1 S.2.1 dX2_costsNow_5 (lv_at hl 0 rfl) ?_
      refine lv_bipush (v := (nI 8)) S.1 S.2.1 dX2_costsNow_7 (by decide) ?_
      refine lv_icmp_ge (tgt := 47) S.1 S.2.1 dX2_costsNow_9 (by decide) (fun c => absurd c (nI_ge (by omega) (by omega))) (fun _ => ?_)
      refine lv_aload_n S.1 S.2.1 dX2_costsNow_12 rfl (lv_at hl 2 rfl) ?_
      refine lv_iload_n S.1 S.2.1 dX2_costsNow_13 rfl (lv_at hl 3 rfl) ?_
      refine lv_iload S.1 S.2.1 dX2_costsNow_14 (lv_at hl 0 rfl) ?_
      refine call_X2_carries S hK hN hP hD hS hA (u := u) (v := i1) (by omega) (by omega) hl.1 (Nat.le_of_ble_eq_true rfl) ⟨Nat.le_of_ble_eq_true rfl, Nat.le_of_ble_eq_true rfl⟩ dX2_costsNow_16 ⟨Nat.le_refl _, Nat.le_refl _⟩ (fun H locs hP hD hS => ?_)
      refine kb_eq (tgt := 41) S dX2_costsNow_19 (by decide) (fun c4 => ?_) (fun c4 => ?_)
      · refine lv_iinc (v := (nI (i1 + 1))) (lv' := [(4, .int (nI (i1 + 1))), (2, .long (x1_0)), (0, .ref (a 0)), (1, .int (nI (u)))]) S.1 S.2.1 dX2_costsNow_41 hl (k := 0) rfl (nI_add _ 1) (by decide) rfl (fun ls hl => ?_)
        refine lv_goto (tgt := 5) S.1 S.2.1 dX2_costsNow_44 (by decide) ?_
        exact ih1 (i1 + 1)  x1_0 (by omega) (itr_step he1 (by first | (simp only [fCosts, c4, reduceIte, Bool.false_eq_true, eq_self_iff_true, if_true, if_false]; done) | with_reducible rfl)) _ _ hP hD hS _ (lv_sub hl [0, 1, 2, 3] rfl)
      · refine lv_lload_n S.1 S.2.1 dX2_costsNow_22 rfl (lv_at hl 1 rfl) ?_
        refine lv_aload_n S.1 S.2.1 dX2_costsNow_23 rfl (lv_at hl 2 rfl) ?_
        refine cf_net_linkCost S hK hP dX2_costsNow_24 ?_
        refine lv_iload_n S.1 S.2.1 dX2_costsNow_27 rfl (lv_at hl 3 rfl) ?_
        refine lv_iload S.1 S.2.1 dX2_costsNow_28 (lv_at hl 0 rfl) ?_
        refine call_X2_pair S hK hN hP hD hS hA (u := u) (v := i1)  hl.1 (Nat.le_of_ble_eq_true rfl) ⟨Nat.le_of_ble_eq_true rfl, Nat.le_of_ble_eq_true rfl⟩ dX2_costsNow_30 ⟨Nat.le_refl _, Nat.le_refl _⟩ (fun H locs hP hD hS => ?_)
        refine ca_linkCost S hK hP (j := (u * 8 + i1)) (by omega) dX2_costsNow_33 ?_
        refine lv_iload S.1 S.2.1 dX2_costsNow_34 (lv_at hl 0 rfl) ?_
        refine call_X1_packed S hK hN hP hD hS hA (x := σ.1 3 (u * 8 + i1)) (w := i1)  hl.1 (Nat.le_of_ble_eq_true rfl) ⟨Nat.le_of_ble_eq_true rfl, Nat.le_of_ble_eq_true rfl⟩ dX2_costsNow_36 ⟨Nat.le_refl _, Nat.le_refl _⟩ (fun H locs hP hD hS => ?_)
        refine lv_lor S.1 S.2.1 dX2_costsNow_39 ?_
        refine lv_lstore_n (lv' := [(2, .long ((x1_0) ||| (packF (σ.1 3 (u * 8 + i1)) i1))), (4, .int (nI (i1))), (0, .ref (a 0)), (1, .int (nI (u)))]) S.1 S.2.1 dX2_costsNow_40 rfl hl (by decide) rfl (fun ls hl => ?_)
        refine lv_iinc (v := (nI (i1 + 1))) (lv' := [(4, .int (nI (i1 + 1))), (2, .long ((x1_0) ||| (packF (σ.1 3 (u * 8 + i1)) i1))), (0, .ref (a 0)), (1, .int (nI (u)))]) S.1 S.2.1 dX2_costsNow_41 hl (k := 1) rfl (nI_add _ 1) (by decide) rfl (fun ls hl => ?_)
        refine lv_goto (tgt := 5) S.1 S.2.1 dX2_costsNow_44 (by decide) ?_
        exact ih1 (i1 + 1)  ((x1_0) ||| (packF (σ.1 3 (u * 8 + i1)) i1)) (by omega) (itr_step he1 (by first | (simp only [fCosts, c4, reduceIte, Bool.false_eq_true, eq_self_iff_true, if_true, if_false]; done) | with_reducible rfl)) _ _ hP hD hS _ (lv_sub hl [0, 1, 2, 3] rfl)
  exact lp1 8 0  0 (by omega) rfl _ _ hP hD hS _ (lv_sub hl [0, 1, 2, 3] rfl)
theorem call_X2_costsNow {p : Program} {l : Launch} {e : Env} {R : Room} {s : State} {m : MethodId} {args : Array Value} {below : List Frame} {meth : Method} {c : Code} {H : Heap} {locs : List Loc} {cells slots : Nat} {Q : State → Prop} {cc : ByteArray} {pc nL : Nat} {ls : Array Slot} {rest : List Value} {D : va_G} {A : Nat → Prop} {w0 : Cond} {X : va_W} {cy : Nat → ClassId} {a : Nat → Nat} {σ : CS} (S : CallFix p m c cc nL s args (w0 :: gw) RX2) (hK : va_K D vwCl (tyA cy) s) (hN : kN nestC s) (hP : va_P D vwCl (X ++ cB cy a σ) H) (hD : va_D A (X ++ cB cy a σ)) (hS : va_S A s.heap H locs) (hA : ∀ q, s.heap.size ≤ q → A q) {u : Nat} (hu : u < 8) (hsz : ls.size = nL) (hW : (rest.map fun v => v.category).sum ≤ 8) (hR : 2 + 1 ≤ R.frames ∧ 8 + (5 + 11) + 32 * 2 ≤ R.locals) (hdg : decode cc pc = .ok (.invokevirtual 198, 3)) (hfc : cells ≤ R.cells ∧ slots ≤ R.slots)
    (kk : ∀ (H1 : Heap) (locs1 : List Loc), va_P D vwCl (X ++ cB cy a σ) H1 → va_D A (X ++ cB cy a σ) → va_S A s.heap H1 locs1 → W p l e R s m args below meth c H1 locs1 cells slots Q (F0 m (pc + 3) ls (.long (cCosts σ u) :: rest))) : W p l e R s m args below meth c H locs cells slots Q (F0 m pc ls (.int (nI (u)) :: .ref (a 0) :: rest)) :=
  kgo_l (va_runV (As := [.int (nI (u))]) (rest := rest) S (c_X2_costsNow l D cy a X σ u hu H.size) (cwV 1 S.2.2.2.2 (gw_good_1 wm_319 (gw_good_1 wm_321 (gw_good_1 wm_14 (gw_good_1 wm_48 (gw_good_in wm_322))))) rfl rfl rfl (by decide +kernel) hR) ⟨kblind nestC_ok, crecv_net hK hP, kpre nestC_ok hN hK hP hD⟩ rfl rfl hsz rfl (lv_room hW) hdg hfc) hD hS hA kk
set_option maxHeartbeats 400000 in
set_option maxRecDepth 100000 in
theorem c_X2_putLink (l : Launch) (D : va_G) (cy : Nat → ClassId) (a : Nat → Nat) (X : va_W) (σ : CS) (u : Nat) (v : Nat) (x : Int32) (y : Int32) (hu : u < 8) (hv : v < 8) : MetV l yX2_putLink cX2_putLink 5 (kRm 1 0 0) D (tyA cy) nestC [.ref (a 0), .int (nI (u)), .int (nI (v)), .int (x), .int (y)] (X ++ cB cy a σ) (X ++ cB cy a (cPutLink u v x y σ)) 0 0 := by
  intro sz
  refine kmet (own := RX2) (by decide) rfl (Nat.le_of_ble_eq_true rfl) (fun p e s m args below meth c S hr hlk hK hN hP hD hsz hA hnm ls hl => ?_)
  have hS : va_S (va_A (X ++ cB cy a σ) sz) s.heap s.heap [] := va_S.rf
  have hl : lv_has ls 5 [(0, .ref (a 0)), (1, .int (nI (u))), (2, .int (nI (v))), (3, .int (x)), (4, .int (y))] := hl
  refine lv_aload_n S.1 S.2.1 dX2_putLink_0 rfl (lv_at hl 0 rfl) ?_
  refine cf_net_linkCost S hK hP dX2_putLink_1 ?_
  refine lv_iload_n S.1 S.2.1 dX2_putLink_4 rfl (lv_at hl 1 rfl) ?_
  refine lv_iload_n S.1 S.2.1 dX2_putLink_5 rfl (lv_at hl 2 rfl) ?_
  refine call_X2_pair S hK hN hP hD hS hA (u := u) (v := v)  hl.1 (Nat.le_of_ble_eq_true rfl) ⟨Nat.le_of_ble_eq_true rfl, Nat.le_of_ble_eq_true rfl⟩ dX2_putLink_6 ⟨Nat.le_refl _, Nat.le_refl _⟩ (fun H locs hP hD hS => ?_)
  refine lv_iload_n S.1 S.2.1 dX2_putLink_9 rfl (lv_at hl 3 rfl) ?_
  refine cs_linkCost S hK hP hD hS (j := (u * 8 + v)) (by omega) dX2_putLink_10 (fun H locs hP hD hS => ?_)
  refine lv_aload_n S.1 S.2.1 dX2_putLink_11 rfl (lv_at hl 0 rfl) ?_
  refine cf_net_linkDelay S hK hP dX2_putLink_12 ?_
  refine lv_iload_n S.1 S.2.1 dX2_putLink_15 rfl (lv_at hl 1 rfl) ?_
  refine lv_iload_n S.1 S.2.1 dX2_putLink_16 rfl (lv_at hl 2 rfl) ?_
  refine call_X2_pair S hK hN hP hD hS hA (u := u) (v := v)  hl.1 (Nat.le_of_ble_eq_true rfl) ⟨Nat.le_of_ble_eq_true rfl, Nat.le_of_ble_eq_true rfl⟩ dX2_putLink_17 ⟨Nat.le_refl _, Nat.le_refl _⟩ (fun H locs hP hD hS => ?_)
  refine lv_iload S.1 S.2.1 dX2_putLink_20 (lv_at hl 4 rfl) ?_
  refine cs_linkDelay S hK hP hD hS (j := (u * 8 + v)) (by omega) dX2_putLink_22 (fun H locs hP hD hS => ?_)
  have e9 : cPutLink u v x y σ = sI 4 (u * 8 + v) (y) (sI 3 (u * 8 + v) (x) σ) := by first | (simp only [cPutLink, reduceIte, Bool.false_eq_true, eq_self_iff_true, if_true, if_false]; done) | with_reducible rfl
  rw [e9]
  exact kret_v S hr hlk hP hD hS dX2_putLink_23
theorem call_X2_putLink {p : Program} {l : Launch} {e : Env} {R : Room} {s : State} {m : MethodId} {args : Array Value} {below : List Frame} {meth : Method} {c : Code} {H : Heap} {locs : List Loc} {cells slots : Nat} {Q : State → Prop} {cc : ByteArray} {pc nL : Nat} {ls : Array Slot} {rest : List Value} {D : va_G} {A : Nat → Prop} {w0 : Cond} {X : va_W} {cy : Nat → ClassId} {a : Nat → Nat} {σ : CS} (S : CallFix p m c cc nL s args (w0 :: gw) RX2) (hK : va_K D vwCl (tyA cy) s) (hN : kN nestC s) (hP : va_P D vwCl (X ++ cB cy a σ) H) (hD : va_D A (X ++ cB cy a σ)) (hS : va_S A s.heap H locs) (hA : ∀ q, s.heap.size ≤ q → A q) {u : Nat} {v : Nat} {x : Int32} {y : Int32} (hu : u < 8) (hv : v < 8) (hsz : ls.size = nL) (hW : (rest.map fun v => v.category).sum ≤ 8) (hR : 1 + 1 ≤ R.frames ∧ 8 + (5 + 11) + 32 * 1 ≤ R.locals) (hdg : decode cc pc = .ok (.invokevirtual 76, 3)) (hfc : cells ≤ R.cells ∧ slots ≤ R.slots)
    (kk : ∀ (H1 : Heap) (locs1 : List Loc), va_P D vwCl (X ++ cB cy a (cPutLink u v x y σ)) H1 → va_D A (X ++ cB cy a (cPutLink u v x y σ)) → va_S A s.heap H1 locs1 → W p l e R s m args below meth c H1 locs1 cells slots Q (F0 m (pc + 3) ls (rest))) : W p l e R s m args below meth c H locs cells slots Q (F0 m pc ls (.int (y) :: .int (x) :: .int (nI (v)) :: .int (nI (u)) :: .ref (a 0) :: rest)) :=
  kgo_v (va_runV (As := [.int (nI (u)), .int (nI (v)), .int (x), .int (y)]) (rest := rest) S (c_X2_putLink l D cy a X σ u v x y hu hv H.size) (cwV 4 S.2.2.2.2 (gw_good_1 wm_301 (gw_good_1 wm_303 (gw_good_1 wm_11 (gw_good_1 wm_48 (gw_good_in wm_304))))) rfl rfl rfl (by decide +kernel) hR) ⟨kblind nestC_ok, crecv_net hK hP, kpre nestC_ok hN hK hP hD⟩ rfl rfl hsz rfl (lv_room hW) hdg hfc) hD hS hA kk
set_option maxHeartbeats 400000 in
set_option maxRecDepth 100000 in
theorem c_X2_sendKnown (l : Launch) (D : va_G) (cy : Nat → ClassId) (a : Nat → Nat) (X : va_W) (σ : CS) (f : Nat) (t : Nat) (o : Nat) (hf : f < 8) (ht : t < 8) (ho : o < 8) : MetV l yX2_sendKnown cX2_sendKnown 6 (kRm 1 0 0) D (tyA cy) nestC [.ref (a 0), .int (nI (f)), .int (nI (t)), .int (nI (o))] (X ++ cB cy a σ) (X ++ cB cy a (cSendKnown f t o σ)) 0 0 := by
  intro sz
  refine kmet (own := RX2) (by decide) rfl (Nat.le_of_ble_eq_true rfl) (fun p e s m args below meth c S hr hlk hK hN hP hD hsz hA hnm ls hl => ?_)
  have hS : va_S (va_A (X ++ cB cy a σ) sz) s.heap s.heap [] := va_S.rf
  have hl : lv_has ls 6 [(0, .ref (a 0)), (1, .int (nI (f))), (2, .int (nI (t))), (3, .int (nI (o)))] := hl
  refine lv_iload_n S.1 S.2.1 dX2_sendKnown_0 rfl (lv_at hl 1 rfl) ?_
  refine lv_iload_n S.1 S.2.1 dX2_sendKnown_1 rfl (lv_at hl 3 rfl) ?_
  refine call_X2_knownRow S hK hN hP hD hS hA (u := f) (v := o)  hl.1 (Nat.le_of_ble_eq_true rfl) ⟨Nat.le_of_ble_eq_true rfl, Nat.le_of_ble_eq_true rfl⟩ dX2_sendKnown_2 ⟨Nat.le_refl _, Nat.le_refl _⟩ (fun H locs hP hD hS => ?_)
  refine lv_istore (lv' := [(4, .int (nI (f * 8 + o))), (0, .ref (a 0)), (1, .int (nI (f))), (2, .int (nI (t))), (3, .int (nI (o)))]) S.1 S.2.1 dX2_sendKnown_5 hl (by decide) rfl (fun ls hl => ?_)
  refine lv_iload_n S.1 S.2.1 dX2_sendKnown_7 rfl (lv_at hl 2 rfl) ?_
  refine lv_iload_n S.1 S.2.1 dX2_sendKnown_8 rfl (lv_at hl 3 rfl) ?_
  refine lv_iload_n S.1 S.2.1 dX2_sendKnown_9 rfl (lv_at hl 4 rfl) ?_
  refine call_X2_flightRow S hK hN hP hD hS hA (u := f) (v := t) (o := o)  hl.1 (Nat.le_of_ble_eq_true rfl) ⟨Nat.le_of_ble_eq_true rfl, Nat.le_of_ble_eq_true rfl⟩ dX2_sendKnown_10 ⟨Nat.le_refl _, Nat.le_refl _⟩ (fun H locs hP hD hS => ?_)
  refine lv_istore (lv' := [(5, .int (nI ((f * 8 + t) * 8 + o))), (4, .int (nI (f * 8 + o))), (0, .ref (a 0)), (1, .int (nI (f))), (2, .int (nI (t))), (3, .int (nI (o)))]) S.1 S.2.1 dX2_sendKnown_13 hl (by decide) rfl (fun ls hl => ?_)
  refine lv_aload_n S.1 S.2.1 dX2_sendKnown_15 rfl (lv_at hl 2 rfl) ?_
  refine cf_net_known S hK hP dX2_sendKnown_16 ?_
  refine cn_known_number S hK hN hP dX2_sendKnown_19 ?_
  refine lv_iload S.1 S.2.1 dX2_sendKnown_22 (lv_at hl 1 rfl) ?_
  refine ca_knNumber S hK hP (j := (f * 8 + o)) (by omega) dX2_sendKnown_24 ?_
  refine lv_aload_n S.1 S.2.1 dX2_sendKnown_25 rfl (lv_at hl 2 rfl) ?_
  refine cf_net_inFlight S hK hP dX2_sendKnown_26 ?_
  refine cn_inFlight_number S hK hN hP dX2_sendKnown_29 ?_
  refine lv_iload S.1 S.2.1 dX2_sendKnown_32 (lv_at hl 0 rfl) ?_
  refine ca_inNumber S hK hP (j := ((f * 8 + t) * 8 + o)) (by omega) dX2_sendKnown_34 ?_
  refine lv_icmp_le (tgt := 99) S.1 S.2.1 dX2_sendKnown_35 (by decide) (fun c1 => ?_) (fun c1 => ?_)
  · have e9 : cSendKnown f t o σ = σ := by first | (simp only [cSendKnown, cSendW, c1, reduceIte, Bool.false_eq_true, eq_self_iff_true, if_true, if_false]; done) | with_reducible rfl
    rw [e9]
    exact kret_v S hr hlk hP hD hS dX2_sendKnown_99
  · refine lv_aload_n S.1 S.2.1 dX2_sendKnown_38 rfl (lv_at hl 2 rfl) ?_
    refine cf_net_inFlight S hK hP dX2_sendKnown_39 ?_
    refine lv_iload S.1 S.2.1 dX2_sendKnown_42 (lv_at hl 0 rfl) ?_
    refine lv_aload_n S.1 S.2.1 dX2_sendKnown_44 rfl (lv_at hl 2 rfl) ?_
    refine cf_net_known S hK hP dX2_sendKnown_45 ?_
    refine cn_known_number S hK hN hP dX2_sendKnown_48 ?_
    refine lv_iload S.1 S.2.1 dX2_sendKnown_51 (lv_at hl 1 rfl) ?_
    refine ca_knNumber S hK hP (j := (f * 8 + o)) (by omega) dX2_sendKnown_53 ?_
    refine lv_aload_n S.1 S.2.1 dX2_sendKnown_54 rfl (lv_at hl 2 rfl) ?_
    refine cf_net_known S hK hP dX2_sendKnown_55 ?_
    refine cn_known_born S hK hN hP dX2_sendKnown_58 ?_
    refine lv_iload S.1 S.2.1 dX2_sendKnown_61 (lv_at hl 1 rfl) ?_
    refine ca_knBorn S hK hP (j := (f * 8 + o)) (by omega) dX2_sendKnown_63 ?_
    refine lv_aload_n S.1 S.2.1 dX2_sendKnown_64 rfl (lv_at hl 2 rfl) ?_
    refine cf_net_known S hK hP dX2_sendKnown_65 ?_
    refine cn_known_costs S hK hN hP dX2_sendKnown_68 ?_
    refine lv_iload S.1 S.2.1 dX2_sendKnown_71 (lv_at hl 1 rfl) ?_
    refine ca_knCosts S hK hP (j := (f * 8 + o)) (by omega) dX2_sendKnown_73 ?_
    refine call_X1_write_inFlight S hK hN hP hD hS hA (row := (f * 8 + t) * 8 + o) (x := σ.1 6 (f * 8 + o)) (y := σ.1 7 (f * 8 + o)) (z := σ.2 0 (f * 8 + o)) (by omega) hl.1 (Nat.le_of_ble_eq_true rfl) ⟨Nat.le_of_ble_eq_true rfl, Nat.le_of_ble_eq_true rfl⟩ dX2_sendKnown_74 ⟨Nat.le_refl _, Nat.le_refl _⟩ (fun H locs hP hD hS => ?_)
    refine lv_aload_n S.1 S.2.1 dX2_sendKnown_77 rfl (lv_at hl 2 rfl) ?_
    refine cf_net_newsArrival S hK hP dX2_sendKnown_78 ?_
    refine lv_iload S.1 S.2.1 dX2_sendKnown_81 (lv_at hl 0 rfl) ?_
    refine lv_aload_n S.1 S.2.1 dX2_sendKnown_83 rfl (lv_at hl 2 rfl) ?_
    refine cf_net_time S hK hP dX2_sendKnown_84 ?_
    refine lv_aload_n S.1 S.2.1 dX2_sendKnown_87 rfl (lv_at hl 2 rfl) ?_
    refine cf_net_linkDelay S hK hP dX2_sendKnown_88 ?_
    refine lv_iload_n S.1 S.2.1 dX2_sendKnown_91 rfl (lv_at hl 3 rfl) ?_
    refine lv_iload_n S.1 S.2.1 dX2_sendKnown_92 rfl (lv_at hl 4 rfl) ?_
    refine call_X2_pair S hK hN hP hD hS hA (u := f) (v := t)  hl.1 (Nat.le_of_ble_eq_true rfl) ⟨Nat.le_of_ble_eq_true rfl, Nat.le_of_ble_eq_true rfl⟩ dX2_sendKnown_93 ⟨Nat.le_refl _, Nat.le_refl _⟩ (fun H locs hP hD hS => ?_)
    refine ca_linkDelay S hK hP (j := (f * 8 + t)) (by omega) dX2_sendKnown_96 ?_
    refine lv_iadd S.1 S.2.1 dX2_sendKnown_97 ?_
    refine cs_newsArrival S hK hP hD hS (j := ((f * 8 + t) * 8 + o)) (by omega) dX2_sendKnown_98 (fun H locs hP hD hS => ?_)
    have e9 : cSendKnown f t o σ = sI 10 ((f * 8 + t) * 8 + o) (((pWrite 8 9 1 4 ((f * 8 + t) * 8 + o) (σ.1 6 (f * 8 + o)) (σ.1 7 (f * 8 + o)) (σ.2 0 (f * 8 + o)) σ).1 0 2) + ((pWrite 8 9 1 4 ((f * 8 + t) * 8 + o) (σ.1 6 (f * 8 + o)) (σ.1 7 (f * 8 + o)) (σ.2 0 (f * 8 + o)) σ).1 4 (f * 8 + t))) (pWrite 8 9 1 4 ((f * 8 + t) * 8 + o) (σ.1 6 (f * 8 + o)) (σ.1 7 (f * 8 + o)) (σ.2 0 (f * 8 + o)) σ) := by first | (simp only [cSendKnown, cSendW, c1, reduceIte, Bool.false_eq_true, eq_self_iff_true, if_true, if_false]; done) | with_reducible rfl
    rw [e9]
    exact kret_v S hr hlk hP hD hS dX2_sendKnown_99
theorem call_X2_sendKnown {p : Program} {l : Launch} {e : Env} {R : Room} {s : State} {m : MethodId} {args : Array Value} {below : List Frame} {meth : Method} {c : Code} {H : Heap} {locs : List Loc} {cells slots : Nat} {Q : State → Prop} {cc : ByteArray} {pc nL : Nat} {ls : Array Slot} {rest : List Value} {D : va_G} {A : Nat → Prop} {w0 : Cond} {X : va_W} {cy : Nat → ClassId} {a : Nat → Nat} {σ : CS} (S : CallFix p m c cc nL s args (w0 :: gw) RX2) (hK : va_K D vwCl (tyA cy) s) (hN : kN nestC s) (hP : va_P D vwCl (X ++ cB cy a σ) H) (hD : va_D A (X ++ cB cy a σ)) (hS : va_S A s.heap H locs) (hA : ∀ q, s.heap.size ≤ q → A q) {f : Nat} {t : Nat} {o : Nat} (hf : f < 8) (ht : t < 8) (ho : o < 8) (hsz : ls.size = nL) (hW : (rest.map fun v => v.category).sum ≤ 8) (hR : 1 + 1 ≤ R.frames ∧ 8 + (6 + 11) + 32 * 1 ≤ R.locals) (hdg : decode cc pc = .ok (.invokevirtual 214, 3)) (hfc : cells ≤ R.cells ∧ slots ≤ R.slots)
    (kk : ∀ (H1 : Heap) (locs1 : List Loc), va_P D vwCl (X ++ cB cy a (cSendKnown f t o σ)) H1 → va_D A (X ++ cB cy a (cSendKnown f t o σ)) → va_S A s.heap H1 locs1 → W p l e R s m args below meth c H1 locs1 cells slots Q (F0 m (pc + 3) ls (rest))) : W p l e R s m args below meth c H locs cells slots Q (F0 m pc ls (.int (nI (o)) :: .int (nI (t)) :: .int (nI (f)) :: .ref (a 0) :: rest)) :=
  kgo_v (va_runV (As := [.int (nI (f)), .int (nI (t)), .int (nI (o))]) (rest := rest) S (c_X2_sendKnown l D cy a X σ f t o hf ht ho H.size) (cwV 3 S.2.2.2.2 (gw_good_1 wm_334 (gw_good_1 wm_336 (gw_good_1 wm_17 (gw_good_1 wm_48 (gw_good_in wm_337))))) rfl rfl rfl (by decide +kernel) hR) ⟨kblind nestC_ok, crecv_net hK hP, kpre nestC_ok hN hK hP hD⟩ rfl rfl hsz rfl (lv_room hW) hdg hfc) hD hS hA kk
set_option maxHeartbeats 400000 in
set_option maxRecDepth 100000 in
theorem c_X2_sendAllKnown (l : Launch) (D : va_G) (cy : Nat → ClassId) (a : Nat → Nat) (X : va_W) (σ : CS) (f : Nat) (t : Nat) (hf : f < 8) (ht : t < 8) : MetV l yX2_sendAllKnown cX2_sendAllKnown 4 (kRm 2 0 0) D (tyA cy) nestC [.ref (a 0), .int (nI (f)), .int (nI (t))] (X ++ cB cy a σ) (X ++ cB cy a (cSendAll f t σ)) 0 0 := by
  intro sz
  refine kmet (own := RX2) (by decide) rfl (Nat.le_of_ble_eq_true rfl) (fun p e s m args below meth c S hr hlk hK hN hP hD hsz hA hnm ls hl => ?_)
  have hS : va_S (va_A (X ++ cB cy a σ) sz) s.heap s.heap [] := va_S.rf
  have hl : lv_has ls 4 [(0, .ref (a 0)), (1, .int (nI (f))), (2, .int (nI (t)))] := hl
  refine lv_iconst (v := (nI 0)) S.1 S.2.1 dX2_sendAllKnown_0 (by decide) ?_
  refine lv_istore_n (lv' := [(3, .int (nI 0)), (0, .ref (a 0)), (1, .int (nI (f))), (2, .int (nI (t)))]) S.1 S.2.1 dX2_sendAllKnown_1 rfl hl (by decide) rfl (fun ls hl => ?_)
  have lp1 : ∀ (n1 i1 : Nat) (σ1 : CS), i1 + n1 = 8 → itr (cSendKnown f t) n1 i1 σ1 = itr (cSendKnown f t) 8 0 σ → ∀ (H : Heap) (locs : List Loc), va_P D vwCl (X ++ cB cy a σ1) H → va_D (va_A (X ++ cB cy a σ) sz) (X ++ cB cy a σ1) → va_S (va_A (X ++ cB cy a σ) sz) s.heap H locs → ∀ ls : Array Slot, lv_has ls 4 [(3, .int (nI (i1))), (0, .ref (a 0)), (1, .int (nI (f))), (2, .int (nI (t)))] → W p l e (kRm 2 0 0) s m args below meth c H locs 0 0 (MQ below (kQv D (X ++ cB cy a σ) (X ++ cB cy a (cSendAll f t σ)) sz) args s 0 0 (va_A (X ++ cB cy a σ) sz)) (F0 m 2 ls []) := by
    intro n1
    induction n1 with
    | zero =>
      intro i1 σ1 hi1 he1 H locs hP hD hS ls hl
      have hi1 : i1 = 8 := by omega
      have he1 : σ1 = itr (cSendKnown f t) 8 0 σ := he1
      refine lv_iload_n S.1 S.2.1 dX2_sendAllKnown_2 rfl (lv_at hl 0 rfl) ?_
      refine lv_bipush (v := (nI 8)) S.1 S.2.1 dX2_sendAllKnown_3 (by decide) ?_
      refine lv_icmp_ge (tgt := 21) S.1 S.2.1 dX2_sendAllKnown_5 (by decide) (fun _ => ?_) (fun c => absurd (nI_le (by omega) (by omega)) c)
      have e9 : cSendAll f t σ = σ1 := by first | (simp only [cSendAll, ← he1, reduceIte, Bool.false_eq_true, eq_self_iff_true, if_true, if_false]; done) | with_reducible rfl
      rw [e9]
      exact kret_v S hr hlk hP hD hS dX2_sendAllKnown_21
    | succ n1 ih1 =>
      intro i1 σ1 hi1 he1 H locs hP hD hS ls hl
      have hlt1 : i1 < 8 := by omega
      refine lv_iload_n S.1 S.2.1 dX2_sendAllKnown_2 rfl (lv_at hl 0 rfl) ?_
      refine lv_bipush (v := (nI 8)) S.1 S.2.1 dX2_sendAllKnown_3 (by decide) ?_
      refine lv_icmp_ge (tgt := 21) S.1 S.2.1 dX2_sendAllKnown_5 (by decide) (fun c => absurd c (nI_ge (by omega) (by omega))) (fun _ => ?_)
      refine lv_aload_n S.1 S.2.1 dX2_sendAllKnown_8 rfl (lv_at hl 1 rfl) ?_
      refine lv_iload_n S.1 S.2.1 dX2_sendAllKnown_9 rfl (lv_at hl 2 rfl) ?_
      refine lv_iload_n S.1 S.2.1 dX2_sendAllKnown_10 rfl (lv_at hl 3 rfl) ?_
      refine lv_iload_n S.1 S.2.1 dX2_sendAllKnown_11 rfl (lv_at hl 0 rfl) ?_
      refine call_X2_sendKnown S hK hN hP hD hS hA (f := f) (t := t) (o := i1) (by omega) (by omega) (by omega) hl.1 (Nat.le_of_ble_eq_true rfl) ⟨Nat.le_of_ble_eq_true rfl, Nat.le_of_ble_eq_true rfl⟩ dX2_sendAllKnown_12 ⟨Nat.le_refl _, Nat.le_refl _⟩ (fun H locs hP hD hS => ?_)
      refine lv_iinc (v := (nI (i1 + 1))) (lv' := [(3, .int (nI (i1 + 1))), (0, .ref (a 0)), (1, .int (nI (f))), (2, .int (nI (t)))]) S.1 S.2.1 dX2_sendAllKnown_15 hl (k := 0) rfl (nI_add _ 1) (by decide) rfl (fun ls hl => ?_)
      refine lv_goto (tgt := 2) S.1 S.2.1 dX2_sendAllKnown_18 (by decide) ?_
      exact ih1 (i1 + 1) (cSendKnown f t i1 σ1) (by omega) (itr_step he1 (by first | (simp only [cSendKnown, reduceIte, Bool.false_eq_true, eq_self_iff_true, if_true, if_false]; done) | with_reducible rfl)) _ _ hP hD hS _ (lv_sub hl [0, 1, 2, 3] rfl)
  exact lp1 8 0 σ (by omega) rfl _ _ hP hD hS _ (lv_sub hl [0, 1, 2, 3] rfl)
theorem call_X2_sendAllKnown {p : Program} {l : Launch} {e : Env} {R : Room} {s : State} {m : MethodId} {args : Array Value} {below : List Frame} {meth : Method} {c : Code} {H : Heap} {locs : List Loc} {cells slots : Nat} {Q : State → Prop} {cc : ByteArray} {pc nL : Nat} {ls : Array Slot} {rest : List Value} {D : va_G} {A : Nat → Prop} {w0 : Cond} {X : va_W} {cy : Nat → ClassId} {a : Nat → Nat} {σ : CS} (S : CallFix p m c cc nL s args (w0 :: gw) RX2) (hK : va_K D vwCl (tyA cy) s) (hN : kN nestC s) (hP : va_P D vwCl (X ++ cB cy a σ) H) (hD : va_D A (X ++ cB cy a σ)) (hS : va_S A s.heap H locs) (hA : ∀ q, s.heap.size ≤ q → A q) {f : Nat} {t : Nat} (hf : f < 8) (ht : t < 8) (hsz : ls.size = nL) (hW : (rest.map fun v => v.category).sum ≤ 8) (hR : 2 + 1 ≤ R.frames ∧ 8 + (4 + 11) + 32 * 2 ≤ R.locals) (hdg : decode cc pc = .ok (.invokevirtual 104, 3)) (hfc : cells ≤ R.cells ∧ slots ≤ R.slots)
    (kk : ∀ (H1 : Heap) (locs1 : List Loc), va_P D vwCl (X ++ cB cy a (cSendAll f t σ)) H1 → va_D A (X ++ cB cy a (cSendAll f t σ)) → va_S A s.heap H1 locs1 → W p l e R s m args below meth c H1 locs1 cells slots Q (F0 m (pc + 3) ls (rest))) : W p l e R s m args below meth c H locs cells slots Q (F0 m pc ls (.int (nI (t)) :: .int (nI (f)) :: .ref (a 0) :: rest)) :=
  kgo_v (va_runV (As := [.int (nI (f)), .int (nI (t))]) (rest := rest) S (c_X2_sendAllKnown l D cy a X σ f t hf ht H.size) (cwV 2 S.2.2.2.2 (gw_good_1 wm_341 (gw_good_1 wm_343 (gw_good_1 wm_18 (gw_good_1 wm_48 (gw_good_in wm_344))))) rfl rfl rfl (by decide +kernel) hR) ⟨kblind nestC_ok, crecv_net hK hP, kpre nestC_ok hN hK hP hD⟩ rfl rfl hsz rfl (lv_room hW) hdg hfc) hD hS hA kk
set_option maxHeartbeats 400000 in
set_option maxRecDepth 100000 in
theorem c_X2_spread (l : Launch) (D : va_G) (cy : Nat → ClassId) (a : Nat → Nat) (X : va_W) (σ : CS) (u : Nat) (o : Nat) (x : Int32) (hu : u < 8) (ho : o < 8) : MetV l yX2_spread cX2_spread 5 (kRm 2 0 0) D (tyA cy) nestC [.ref (a 0), .int (nI (u)), .int (nI (o)), .int (x)] (X ++ cB cy a σ) (X ++ cB cy a (cSpread u o x σ)) 0 0 := by
  intro sz
  refine kmet (own := RX2) (by decide) rfl (Nat.le_of_ble_eq_true rfl) (fun p e s m args below meth c S hr hlk hK hN hP hD hsz hA hnm ls hl => ?_)
  have hS : va_S (va_A (X ++ cB cy a σ) sz) s.heap s.heap [] := va_S.rf
  have hl : lv_has ls 5 [(0, .ref (a 0)), (1, .int (nI (u))), (2, .int (nI (o))), (3, .int (x))] := hl
  refine lv_iconst (v := (nI 0)) S.1 S.2.1 dX2_spread_0 (by decide) ?_
  refine lv_istore (lv' := [(4, .int (nI 0)), (0, .ref (a 0)), (1, .int (nI (u))), (2, .int (nI (o))), (3, .int (x))]) S.1 S.2.1 dX2_spread_1 hl (by decide) rfl (fun ls hl => ?_)
  have lp1 : ∀ (n1 i1 : Nat) (σ1 : CS), i1 + n1 = 8 → itr (fSpread u o x) n1 i1 σ1 = itr (fSpread u o x) 8 0 σ → ∀ (H : Heap) (locs : List Loc), va_P D vwCl (X ++ cB cy a σ1) H → va_D (va_A (X ++ cB cy a σ) sz) (X ++ cB cy a σ1) → va_S (va_A (X ++ cB cy a σ) sz) s.heap H locs → ∀ ls : Array Slot, lv_has ls 5 [(4, .int (nI (i1))), (0, .ref (a 0)), (1, .int (nI (u))), (2, .int (nI (o))), (3, .int (x))] → W p l e (kRm 2 0 0) s m args below meth c H locs 0 0 (MQ below (kQv D (X ++ cB cy a σ) (X ++ cB cy a (cSpread u o x σ)) sz) args s 0 0 (va_A (X ++ cB cy a σ) sz)) (F0 m 3 ls []) := by
    intro n1
    induction n1 with
    | zero =>
      intro i1 σ1 hi1 he1 H locs hP hD hS ls hl
      have hi1 : i1 = 8 := by omega
      have he1 : σ1 = itr (fSpread u o x) 8 0 σ := he1
      refine lv_iload S.1 S.2.1 dX2_spread_3 (lv_at hl 0 rfl) ?_
      refine lv_bipush (v := (nI 8)) S.1 S.2.1 dX2_spread_5 (by decide) ?_
      refine lv_icmp_ge (tgt := 40) S.1 S.2.1 dX2_spread_7 (by decide) (fun _ => ?_) (fun c => absurd (nI_le (by omega) (by omega)) c)
      have e9 : cSpread u o x σ = σ1 := by first | (simp only [cSpread, ← he1, reduceIte, Bool.false_eq_true, eq_self_iff_true, if_true, if_false]; done) | with_reducible rfl
      rw [e9]
      exact kret_v S hr hlk hP hD hS dX2_spread_40
    | succ n1 ih1 =>
      intro i1 σ1 hi1 he1 H locs hP hD hS ls hl
      have hlt1 : i1 < 8 := by omega
      refine lv_iload S.1 S.2.1 dX2_spread_3 (lv_at hl 0 rfl) ?_
      refine lv_bipush (v := (nI 8)) S.1 S.2.1 dX2_spread_5 (by decide) ?_
      refine lv_icmp_ge (tgt := 40) S.1 S.2.1 dX2_spread_7 (by decide) (fun c => absurd c (nI_ge (by omega) (by omega))) (fun _ => ?_)
      refine lv_iload S.1 S.2.1 dX2_spread_10 (lv_at hl 0 rfl) ?_
      refine lv_iload_n S.1 S.2.1 dX2_spread_12 rfl (lv_at hl 4 rfl) ?_
      refine lv_icmp_eq (tgt := 34) S.1 S.2.1 dX2_spread_13 (by decide) (fun c4 => ?_) (fun c4 => ?_)
      · refine lv_iinc (v := (nI (i1 + 1))) (lv' := [(4, .int (nI (i1 + 1))), (0, .ref (a 0)), (1, .int (nI (u))), (2, .int (nI (o))), (3, .int (x))]) S.1 S.2.1 dX2_spread_34 hl (k := 0) rfl (nI_add _ 1) (by decide) rfl (fun ls hl => ?_)
        refine lv_goto (tgt := 3) S.1 S.2.1 dX2_spread_37 (by decide) ?_
        exact ih1 (i1 + 1) σ1 (by omega) (itr_step he1 (by first | (simp only [fSpread, eq_true c4, reduceIte, Bool.false_eq_true, eq_self_iff_true, if_true, if_false]; done) | with_reducible rfl)) _ _ hP hD hS _ (lv_sub hl [0, 1, 2, 3, 4] rfl)
      · refine lv_aload_n S.1 S.2.1 dX2_spread_16 rfl (lv_at hl 1 rfl) ?_
        refine lv_iload_n S.1 S.2.1 dX2_spread_17 rfl (lv_at hl 2 rfl) ?_
        refine lv_iload S.1 S.2.1 dX2_spread_18 (lv_at hl 0 rfl) ?_
        refine call_X2_carries S hK hN hP hD hS hA (u := u) (v := i1) (by omega) (by omega) hl.1 (Nat.le_of_ble_eq_true rfl) ⟨Nat.le_of_ble_eq_true rfl, Nat.le_of_ble_eq_true rfl⟩ dX2_spread_20 ⟨Nat.le_refl _, Nat.le_refl _⟩ (fun H locs hP hD hS => ?_)
        refine kb_eq (tgt := 34) S dX2_spread_23 (by decide) (fun c5 => ?_) (fun c5 => ?_)
        · refine lv_iinc (v := (nI (i1 + 1))) (lv' := [(4, .int (nI (i1 + 1))), (0, .ref (a 0)), (1, .int (nI (u))), (2, .int (nI (o))), (3, .int (x))]) S.1 S.2.1 dX2_spread_34 hl (k := 0) rfl (nI_add _ 1) (by decide) rfl (fun ls hl => ?_)
          refine lv_goto (tgt := 3) S.1 S.2.1 dX2_spread_37 (by decide) ?_
          exact ih1 (i1 + 1) σ1 (by omega) (itr_step he1 (by first | (simp only [fSpread, c4, c5, reduceIte, Bool.false_eq_true, eq_self_iff_true, if_true, if_false]; done) | with_reducible rfl)) _ _ hP hD hS _ (lv_sub hl [0, 1, 2, 3, 4] rfl)
        · refine lv_aload_n S.1 S.2.1 dX2_spread_26 rfl (lv_at hl 1 rfl) ?_
          refine lv_iload_n S.1 S.2.1 dX2_spread_27 rfl (lv_at hl 2 rfl) ?_
          refine lv_iload S.1 S.2.1 dX2_spread_28 (lv_at hl 0 rfl) ?_
          refine lv_iload_n S.1 S.2.1 dX2_spread_30 rfl (lv_at hl 3 rfl) ?_
          refine call_X2_sendKnown S hK hN hP hD hS hA (f := u) (t := i1) (o := o) (by omega) (by omega) (by omega) hl.1 (Nat.le_of_ble_eq_true rfl) ⟨Nat.le_of_ble_eq_true rfl, Nat.le_of_ble_eq_true rfl⟩ dX2_spread_31 ⟨Nat.le_refl _, Nat.le_refl _⟩ (fun H locs hP hD hS => ?_)
          refine lv_iinc (v := (nI (i1 + 1))) (lv' := [(4, .int (nI (i1 + 1))), (0, .ref (a 0)), (1, .int (nI (u))), (2, .int (nI (o))), (3, .int (x))]) S.1 S.2.1 dX2_spread_34 hl (k := 0) rfl (nI_add _ 1) (by decide) rfl (fun ls hl => ?_)
          refine lv_goto (tgt := 3) S.1 S.2.1 dX2_spread_37 (by decide) ?_
          exact ih1 (i1 + 1) (cSendKnown u i1 o σ1) (by omega) (itr_step he1 (by first | (simp only [fSpread, c4, c5, reduceIte, Bool.false_eq_true, eq_self_iff_true, if_true, if_false]; done) | with_reducible rfl)) _ _ hP hD hS _ (lv_sub hl [0, 1, 2, 3, 4] rfl)
  exact lp1 8 0 σ (by omega) rfl _ _ hP hD hS _ (lv_sub hl [0, 1, 2, 3, 4] rfl)
theorem call_X2_spread {p : Program} {l : Launch} {e : Env} {R : Room} {s : State} {m : MethodId} {args : Array Value} {below : List Frame} {meth : Method} {c : Code} {H : Heap} {locs : List Loc} {cells slots : Nat} {Q : State → Prop} {cc : ByteArray} {pc nL : Nat} {ls : Array Slot} {rest : List Value} {D : va_G} {A : Nat → Prop} {w0 : Cond} {X : va_W} {cy : Nat → ClassId} {a : Nat → Nat} {σ : CS} (S : CallFix p m c cc nL s args (w0 :: gw) RX2) (hK : va_K D vwCl (tyA cy) s) (hN : kN nestC s) (hP : va_P D vwCl (X ++ cB cy a σ) H) (hD : va_D A (X ++ cB cy a σ)) (hS : va_S A s.heap H locs) (hA : ∀ q, s.heap.size ≤ q → A q) {u : Nat} {o : Nat} {x : Int32} (hu : u < 8) (ho : o < 8) (hsz : ls.size = nL) (hW : (rest.map fun v => v.category).sum ≤ 8) (hR : 2 + 1 ≤ R.frames ∧ 8 + (5 + 11) + 32 * 2 ≤ R.locals) (hdg : decode cc pc = .ok (.invokevirtual 206, 3)) (hfc : cells ≤ R.cells ∧ slots ≤ R.slots)
    (kk : ∀ (H1 : Heap) (locs1 : List Loc), va_P D vwCl (X ++ cB cy a (cSpread u o x σ)) H1 → va_D A (X ++ cB cy a (cSpread u o x σ)) → va_S A s.heap H1 locs1 → W p l e R s m args below meth c H1 locs1 cells slots Q (F0 m (pc + 3) ls (rest))) : W p l e R s m args below meth c H locs cells slots Q (F0 m pc ls (.int (x) :: .int (nI (o)) :: .int (nI (u)) :: .ref (a 0) :: rest)) :=
  kgo_v (va_runV (As := [.int (nI (u)), .int (nI (o)), .int (x)]) (rest := rest) S (c_X2_spread l D cy a X σ u o x hu ho H.size) (cwV 3 S.2.2.2.2 (gw_good_1 wm_330 (gw_good_1 wm_332 (gw_good_1 wm_16 (gw_good_1 wm_48 (gw_good_in wm_333))))) rfl rfl rfl (by decide +kernel) hR) ⟨kblind nestC_ok, crecv_net hK hP, kpre nestC_ok hN hK hP hD⟩ rfl rfl hsz rfl (lv_room hW) hdg hfc) hD hS hA kk
set_option maxHeartbeats 400000 in
set_option maxRecDepth 100000 in
theorem c_X2_tell (l : Launch) (D : va_G) (cy : Nat → ClassId) (a : Nat → Nat) (X : va_W) (σ : CS) (u : Nat) (hu : u < 8) : MetV l yX2_tell cX2_tell 2 (kRm 3 0 0) D (tyA cy) nestC [.ref (a 0), .int (nI (u))] (X ++ cB cy a σ) (X ++ cB cy a (cTell u σ)) 0 0 := by
  intro sz
  refine kmet (own := RX2) (by decide) rfl (Nat.le_of_ble_eq_true rfl) (fun p e s m args below meth c S hr hlk hK hN hP hD hsz hA hnm ls hl => ?_)
  have hS : va_S (va_A (X ++ cB cy a σ) sz) s.heap s.heap [] := va_S.rf
  have hl : lv_has ls 2 [(0, .ref (a 0)), (1, .int (nI (u)))] := hl
  refine lv_aload_n S.1 S.2.1 dX2_tell_0 rfl (lv_at hl 0 rfl) ?_
  refine cf_net_latestNumber S hK hP dX2_tell_1 ?_
  refine lv_iload_n S.1 S.2.1 dX2_tell_4 rfl (lv_at hl 1 rfl) ?_
  refine lv_dup2_11 S.1 S.2.1 dX2_tell_5 rfl rfl ?_
  refine ca_latest S hK hP (j := u) (by omega) dX2_tell_6 ?_
  refine lv_iconst (v := (nI 1)) S.1 S.2.1 dX2_tell_7 (by decide) ?_
  refine lv_iadd S.1 S.2.1 dX2_tell_8 ?_
  refine cs_latest S hK hP hD hS (j := u) (by omega) dX2_tell_9 (fun H locs hP hD hS => ?_)
  refine lv_aload_n S.1 S.2.1 dX2_tell_10 rfl (lv_at hl 0 rfl) ?_
  refine cf_net_known S hK hP dX2_tell_11 ?_
  refine lv_iload_n S.1 S.2.1 dX2_tell_14 rfl (lv_at hl 1 rfl) ?_
  refine lv_iload_n S.1 S.2.1 dX2_tell_15 rfl (lv_at hl 1 rfl) ?_
  refine call_X2_knownRow S hK hN hP hD hS hA (u := u) (v := u)  hl.1 (Nat.le_of_ble_eq_true rfl) ⟨Nat.le_of_ble_eq_true rfl, Nat.le_of_ble_eq_true rfl⟩ dX2_tell_16 ⟨Nat.le_refl _, Nat.le_refl _⟩ (fun H locs hP hD hS => ?_)
  refine lv_aload_n S.1 S.2.1 dX2_tell_19 rfl (lv_at hl 0 rfl) ?_
  refine cf_net_latestNumber S hK hP dX2_tell_20 ?_
  refine lv_iload_n S.1 S.2.1 dX2_tell_23 rfl (lv_at hl 1 rfl) ?_
  refine ca_latest S hK hP (j := u) (by omega) dX2_tell_24 ?_
  refine lv_aload_n S.1 S.2.1 dX2_tell_25 rfl (lv_at hl 0 rfl) ?_
  refine cf_net_time S hK hP dX2_tell_26 ?_
  refine lv_aload_n S.1 S.2.1 dX2_tell_29 rfl (lv_at hl 0 rfl) ?_
  refine lv_iload_n S.1 S.2.1 dX2_tell_30 rfl (lv_at hl 1 rfl) ?_
  refine call_X2_costsNow S hK hN hP hD hS hA (u := u) (by omega) hl.1 (Nat.le_of_ble_eq_true rfl) ⟨Nat.le_of_ble_eq_true rfl, Nat.le_of_ble_eq_true rfl⟩ dX2_tell_31 ⟨Nat.le_refl _, Nat.le_refl _⟩ (fun H locs hP hD hS => ?_)
  refine call_X1_write_known S hK hN hP hD hS hA (row := u * 8 + u) (x := (sI 2 u ((σ.1 2 u) + (nI 1)) σ).1 2 u) (y := (sI 2 u ((σ.1 2 u) + (nI 1)) σ).1 0 2) (z := cCosts (sI 2 u ((σ.1 2 u) + (nI 1)) σ) u) (by omega) hl.1 (Nat.le_of_ble_eq_true rfl) ⟨Nat.le_of_ble_eq_true rfl, Nat.le_of_ble_eq_true rfl⟩ dX2_tell_34 ⟨Nat.le_refl _, Nat.le_refl _⟩ (fun H locs hP hD hS => ?_)
  refine lv_aload_n S.1 S.2.1 dX2_tell_37 rfl (lv_at hl 0 rfl) ?_
  refine lv_iload_n S.1 S.2.1 dX2_tell_38 rfl (lv_at hl 1 rfl) ?_
  refine lv_iload_n S.1 S.2.1 dX2_tell_39 rfl (lv_at hl 1 rfl) ?_
  refine lv_iconst (v := (-1)) S.1 S.2.1 dX2_tell_40 (by decide) ?_
  refine call_X2_spread S hK hN hP hD hS hA (u := u) (o := u) (x := -1) (by omega) (by omega) hl.1 (Nat.le_of_ble_eq_true rfl) ⟨Nat.le_of_ble_eq_true rfl, Nat.le_of_ble_eq_true rfl⟩ dX2_tell_41 ⟨Nat.le_refl _, Nat.le_refl _⟩ (fun H locs hP hD hS => ?_)
  have e9 : cTell u σ = cSpread u u (-1) (pWrite 6 7 0 3 (u * 8 + u) ((sI 2 u ((σ.1 2 u) + (nI 1)) σ).1 2 u) ((sI 2 u ((σ.1 2 u) + (nI 1)) σ).1 0 2) (cCosts (sI 2 u ((σ.1 2 u) + (nI 1)) σ) u) (sI 2 u ((σ.1 2 u) + (nI 1)) σ)) := by first | (simp only [cTell, tell2, tell1, reduceIte, Bool.false_eq_true, eq_self_iff_true, if_true, if_false]; done) | with_reducible rfl
  rw [e9]
  exact kret_v S hr hlk hP hD hS dX2_tell_44
theorem call_X2_tell {p : Program} {l : Launch} {e : Env} {R : Room} {s : State} {m : MethodId} {args : Array Value} {below : List Frame} {meth : Method} {c : Code} {H : Heap} {locs : List Loc} {cells slots : Nat} {Q : State → Prop} {cc : ByteArray} {pc nL : Nat} {ls : Array Slot} {rest : List Value} {D : va_G} {A : Nat → Prop} {w0 : Cond} {X : va_W} {cy : Nat → ClassId} {a : Nat → Nat} {σ : CS} (S : CallFix p m c cc nL s args (w0 :: gw) RX2) (hK : va_K D vwCl (tyA cy) s) (hN : kN nestC s) (hP : va_P D vwCl (X ++ cB cy a σ) H) (hD : va_D A (X ++ cB cy a σ)) (hS : va_S A s.heap H locs) (hA : ∀ q, s.heap.size ≤ q → A q) {u : Nat} (hu : u < 8) (hsz : ls.size = nL) (hW : (rest.map fun v => v.category).sum ≤ 8) (hR : 3 + 1 ≤ R.frames ∧ 8 + (2 + 11) + 32 * 3 ≤ R.locals) (hdg : decode cc pc = .ok (.invokevirtual 98, 3)) (hfc : cells ≤ R.cells ∧ slots ≤ R.slots)
    (kk : ∀ (H1 : Heap) (locs1 : List Loc), va_P D vwCl (X ++ cB cy a (cTell u σ)) H1 → va_D A (X ++ cB cy a (cTell u σ)) → va_S A s.heap H1 locs1 → W p l e R s m args below meth c H1 locs1 cells slots Q (F0 m (pc + 3) ls (rest))) : W p l e R s m args below meth c H locs cells slots Q (F0 m pc ls (.int (nI (u)) :: .ref (a 0) :: rest)) :=
  kgo_v (va_runV (As := [.int (nI (u))]) (rest := rest) S (c_X2_tell l D cy a X σ u hu H.size) (cwV 1 S.2.2.2.2 (gw_good_1 wm_315 (gw_good_1 wm_317 (gw_good_1 wm_13 (gw_good_1 wm_48 (gw_good_in wm_318))))) rfl rfl rfl (by decide +kernel) hR) ⟨kblind nestC_ok, crecv_net hK hP, kpre nestC_ok hN hK hP hD⟩ rfl rfl hsz rfl (lv_room hW) hdg hfc) hD hS hA kk
set_option maxHeartbeats 400000 in
set_option maxRecDepth 100000 in
theorem c_X2_stepCost (l : Launch) (D : va_G) (cy : Nat → ClassId) (a : Nat → Nat) (X : va_W) (σ : CS) (v : Nat) (f : Nat) (t : Nat) (hv : v < 8) (hf : f < 8) (ht : t < 8) : MetI l yX2_stepCost cX2_stepCost 5 .int (kRm 1 0 0) D (tyA cy) nestC [.ref (a 0), .int (nI (v)), .int (nI (f)), .int (nI (t))] (X ++ cB cy a σ) (X ++ cB cy a σ) (cStep σ v f t) 0 0 := by
  intro sz
  refine kmet (own := RX2) (by decide) rfl (Nat.le_of_ble_eq_true rfl) (fun p e s m args below meth c S hr hlk hK hN hP hD hsz hA hnm ls hl => ?_)
  have hS : va_S (va_A (X ++ cB cy a σ) sz) s.heap s.heap [] := va_S.rf
  have hl : lv_has ls 5 [(0, .ref (a 0)), (1, .int (nI (v))), (2, .int (nI (f))), (3, .int (nI (t)))] := hl
  refine lv_aload_n S.1 S.2.1 dX2_stepCost_0 rfl (lv_at hl 0 rfl) ?_
  refine cf_net_known S hK hP dX2_stepCost_1 ?_
  refine lv_iload_n S.1 S.2.1 dX2_stepCost_4 rfl (lv_at hl 1 rfl) ?_
  refine lv_iload_n S.1 S.2.1 dX2_stepCost_5 rfl (lv_at hl 3 rfl) ?_
  refine call_X2_knownRow S hK hN hP hD hS hA (u := v) (v := t)  hl.1 (Nat.le_of_ble_eq_true rfl) ⟨Nat.le_of_ble_eq_true rfl, Nat.le_of_ble_eq_true rfl⟩ dX2_stepCost_6 ⟨Nat.le_refl _, Nat.le_refl _⟩ (fun H locs hP hD hS => ?_)
  refine lv_iload_n S.1 S.2.1 dX2_stepCost_9 rfl (lv_at hl 2 rfl) ?_
  refine call_X1_costFor_known_X2 S hK hN hP hD hS hA (row := v * 8 + t) (w := f) (by omega) hl.1 (Nat.le_of_ble_eq_true rfl) ⟨Nat.le_of_ble_eq_true rfl, Nat.le_of_ble_eq_true rfl⟩ dX2_stepCost_10 ⟨Nat.le_refl _, Nat.le_refl _⟩ (fun H locs hP hD hS => ?_)
  refine lv_istore (lv' := [(4, .int (costF (σ.2 0 (v * 8 + t)) f)), (0, .ref (a 0)), (1, .int (nI (v))), (2, .int (nI (f))), (3, .int (nI (t)))]) S.1 S.2.1 dX2_stepCost_13 hl (by decide) rfl (fun ls hl => ?_)
  refine lv_iload S.1 S.2.1 dX2_stepCost_15 (lv_at hl 0 rfl) ?_
  refine lv_if_le (tgt := 36) S.1 S.2.1 dX2_stepCost_17 (by decide) (fun c1 => ?_) (fun c1 => ?_)
  · refine lv_iconst (v := (nI 0)) S.1 S.2.1 dX2_stepCost_36 (by decide) ?_
    exact kret_i S hr hlk hP hD hS (by first | (simp only [cStep, c1, reduceIte, Bool.false_eq_true, eq_self_iff_true, if_true, if_false]; done) | with_reducible rfl) dX2_stepCost_37
  · refine lv_aload_n S.1 S.2.1 dX2_stepCost_20 rfl (lv_at hl 1 rfl) ?_
    refine cf_net_known S hK hP dX2_stepCost_21 ?_
    refine lv_iload_n S.1 S.2.1 dX2_stepCost_24 rfl (lv_at hl 2 rfl) ?_
    refine lv_iload_n S.1 S.2.1 dX2_stepCost_25 rfl (lv_at hl 3 rfl) ?_
    refine call_X2_knownRow S hK hN hP hD hS hA (u := v) (v := f)  hl.1 (Nat.le_of_ble_eq_true rfl) ⟨Nat.le_of_ble_eq_true rfl, Nat.le_of_ble_eq_true rfl⟩ dX2_stepCost_26 ⟨Nat.le_refl _, Nat.le_refl _⟩ (fun H locs hP hD hS => ?_)
    refine lv_iload_n S.1 S.2.1 dX2_stepCost_29 rfl (lv_at hl 4 rfl) ?_
    refine call_X1_costFor_known_X2 S hK hN hP hD hS hA (row := v * 8 + f) (w := t) (by omega) hl.1 (Nat.le_of_ble_eq_true rfl) ⟨Nat.le_of_ble_eq_true rfl, Nat.le_of_ble_eq_true rfl⟩ dX2_stepCost_30 ⟨Nat.le_refl _, Nat.le_refl _⟩ (fun H locs hP hD hS => ?_)
    refine lv_goto (tgt := 37) S.1 S.2.1 dX2_stepCost_33 (by decide) ?_
    exact kret_i S hr hlk hP hD hS (by first | (simp only [cStep, c1, reduceIte, Bool.false_eq_true, eq_self_iff_true, if_true, if_false]; done) | with_reducible rfl) dX2_stepCost_37
theorem call_X2_stepCost {p : Program} {l : Launch} {e : Env} {R : Room} {s : State} {m : MethodId} {args : Array Value} {below : List Frame} {meth : Method} {c : Code} {H : Heap} {locs : List Loc} {cells slots : Nat} {Q : State → Prop} {cc : ByteArray} {pc nL : Nat} {ls : Array Slot} {rest : List Value} {D : va_G} {A : Nat → Prop} {w0 : Cond} {X : va_W} {cy : Nat → ClassId} {a : Nat → Nat} {σ : CS} (S : CallFix p m c cc nL s args (w0 :: gw) RX2) (hK : va_K D vwCl (tyA cy) s) (hN : kN nestC s) (hP : va_P D vwCl (X ++ cB cy a σ) H) (hD : va_D A (X ++ cB cy a σ)) (hS : va_S A s.heap H locs) (hA : ∀ q, s.heap.size ≤ q → A q) {v : Nat} {f : Nat} {t : Nat} (hv : v < 8) (hf : f < 8) (ht : t < 8) (hsz : ls.size = nL) (hW : (rest.map fun v => v.category).sum ≤ 8) (hR : 1 + 1 ≤ R.frames ∧ 8 + (5 + 11) + 32 * 1 ≤ R.locals) (hdg : decode cc pc = .ok (.invokevirtual 236, 3)) (hfc : cells ≤ R.cells ∧ slots ≤ R.slots)
    (kk : ∀ (H1 : Heap) (locs1 : List Loc), va_P D vwCl (X ++ cB cy a σ) H1 → va_D A (X ++ cB cy a σ) → va_S A s.heap H1 locs1 → W p l e R s m args below meth c H1 locs1 cells slots Q (F0 m (pc + 3) ls (.int (cStep σ v f t) :: rest))) : W p l e R s m args below meth c H locs cells slots Q (F0 m pc ls (.int (nI (t)) :: .int (nI (f)) :: .int (nI (v)) :: .ref (a 0) :: rest)) :=
  kgo_i (va_runV (As := [.int (nI (v)), .int (nI (f)), .int (nI (t))]) (rest := rest) S (c_X2_stepCost l D cy a X σ v f t hv hf ht H.size) (cwV 3 S.2.2.2.2 (gw_good_1 wm_165 (gw_good_1 wm_167 (gw_good_1 wm_3 (gw_good_1 wm_48 (gw_good_in wm_168))))) rfl rfl rfl (by decide +kernel) hR) ⟨kblind nestC_ok, crecv_net hK hP, kpre nestC_ok hN hK hP hD⟩ rfl rfl hsz rfl (lv_room hW) hdg hfc) hD hS hA kk
end
section
/-! PURE FUNCTIONS OF THE CLASS (second batch), and rows that the walks of it want -/
def srch (f : Nat → Option Int32) : Nat → Nat → Option Int32
  | 0, _ => none
  | n + 1, i => match f i with
    | some r => some r
    | none => srch f n (i + 1)
theorem srch_next {f : Nat → Option Int32} {n i : Nat} {r : Option Int32} (h : srch f (n + 1) i = r) (e : f i = none) : srch f n (i + 1) = r := by
  rw [← h]; show _ = (match f i with | some r => some r | none => srch f n (i + 1)); rw [e]
theorem srch_hit {f : Nat → Option Int32} {n i : Nat} {r : Option Int32} {v : Int32} (h : srch f (n + 1) i = r) (e : f i = some v) : some v = r := by
  rw [← h]; show _ = (match f i with | some r => some r | none => srch f n (i + 1)); rw [e]
theorem cl8 {j : Nat} (h : j < 8) : (nI j).toNatClampNeg = j := nI_clamp (by omega)
theorem hasL_of {σ : CS} {x y : Int32} (h : hasL σ x y = true) : ∃ j : Nat, j < 8 ∧ ∃ k : Nat, k < 8 ∧ x = nI j ∧ y = nI k ∧ ¬ σ.1 3 (j * 8 + k) ≤ 0 := by
  unfold hasL at h
  by_cases h1 : isN x = true
  · rw [if_pos h1] at h
    by_cases h2 : isN y = true
    · rw [if_pos h2] at h
      obtain ⟨j, hj, rfl⟩ := isN_of h1
      obtain ⟨k, hk, rfl⟩ := isN_of h2
      rw [cl8 hj, cl8 hk] at h
      by_cases h3 : σ.1 3 (j * 8 + k) ≤ 0
      · rw [if_pos h3] at h; cases h
      · exact ⟨j, hj, k, hk, rfl, rfl, h3⟩
    · rw [if_neg h2] at h; cases h
  · rw [if_neg h1] at h; cases h
theorem sw02 (x : Int32) : x = nI 0 ∨ (¬ x = nI 0 ∧ x = nI 1) ∨ (¬ x = nI 0 ∧ ¬ x = nI 1 ∧ x = nI 2) ∨ (¬ x = nI 0 ∧ ¬ x = nI 1 ∧ ¬ x = nI 2 ∧ (x.toInt < 0 ∨ 2 < x.toInt)) := by
  by_cases h0 : x = nI 0
  · exact Or.inl h0
  · by_cases h1 : x = nI 1
    · exact Or.inr (Or.inl ⟨h0, h1⟩)
    · by_cases h2 : x = nI 2
      · exact Or.inr (Or.inr (Or.inl ⟨h0, h1, h2⟩))
      · refine Or.inr (Or.inr (Or.inr ⟨h0, h1, h2, ?_⟩))
        by_cases h3 : x.toInt < 0
        · exact Or.inl h3
        · refine Or.inr ?_
          rcases Int.lt_or_le 2 x.toInt with h4 | h4
          · exact h4
          · exfalso
            have e0 : (nI 0).toInt = 0 := by decide
            have e1 : (nI 1).toInt = 1 := by decide
            have e2 : (nI 2).toInt = 2 := by decide
            rcases (show x.toInt = 0 ∨ x.toInt = 1 ∨ x.toInt = 2 by omega) with h | h | h
            · exact h0 (Int32.toInt_inj.mp (h.trans e0.symm))
            · exact h1 (Int32.toInt_inj.mp (h.trans e1.symm))
            · exact h2 (Int32.toInt_inj.mp (h.trans e2.symm))
section KM
variable {p : Program} {l : Launch} {e : Env} {R : Room} {s : State} {m : MethodId} {args : Array Value} {below : List Frame} {meth : Method} {c : Code} {H : Heap} {locs : List Loc} {cells slots : Nat} {Q : State → Prop}
variable {cc : ByteArray} {pc nL : Nat} {ls : Array Slot} {rest : List Value} {D : va_G} {w0 : Cond} {X : va_W} {cy : Nat → ClassId} {a : Nat → Nat} {σ : CS}
theorem k_min (S : CallFix p m c cc nL s args (w0 :: gw) RX2) (hsz : ls.size = nL) (hfr : 1 ≤ R.frames) (hlo : (rest.map fun v => v.category).sum + 13 ≤ R.locals) (hc : cells ≤ R.cells) (hs : slots ≤ R.slots) {u v : Nat} (hu : u < 8) (hv : v < 8) (hdg : decode cc pc = .ok (.invokestatic 183, 3))
    (kk : W p l e R s m args below meth c H locs cells slots Q (F0 m (pc + 3) ls (.int (nI (min u v)) :: rest))) : W p l e R s m args below meth c H locs cells slots Q (F0 m pc ls (.int (nI v) :: .int (nI u) :: rest)) := by
  refine va_mmin S.1 S.2.1 (S.2.2.1.trans hsz.symm) S.2.2.2.1 (S.2.2.2.2 _ (List.mem_cons_of_mem _ wm_309)) (S.2.2.2.2 _ (List.mem_cons_of_mem _ wm_310)) (S.2.2.2.2 _ (List.mem_cons_of_mem _ wm_56)) (S.2.2.2.2 _ (List.mem_cons_of_mem _ wm_311)) hfr hlo hc hs hdg ?_
  refine k_top ?_ kk
  by_cases h : u ≤ v
  · rw [Nat.min_eq_left h]
    by_cases h2 : u = v
    · subst h2; simp
    · rw [if_neg (nI_nlt h (by omega))]
  · rw [Nat.min_eq_right (by omega), if_pos (nI_lt (by omega) (by omega))]
theorem k_max (S : CallFix p m c cc nL s args (w0 :: gw) RX2) (hsz : ls.size = nL) (hfr : 1 ≤ R.frames) (hlo : (rest.map fun v => v.category).sum + 13 ≤ R.locals) (hc : cells ≤ R.cells) (hs : slots ≤ R.slots) {u v : Nat} (hu : u < 8) (hv : v < 8) (hdg : decode cc pc = .ok (.invokestatic 188, 3))
    (kk : W p l e R s m args below meth c H locs cells slots Q (F0 m (pc + 3) ls (.int (nI (max u v)) :: rest))) : W p l e R s m args below meth c H locs cells slots Q (F0 m pc ls (.int (nI v) :: .int (nI u) :: rest)) := by
  refine va_mmax S.1 S.2.1 (S.2.2.1.trans hsz.symm) S.2.2.2.1 (S.2.2.2.2 _ (List.mem_cons_of_mem _ wm_312)) (S.2.2.2.2 _ (List.mem_cons_of_mem _ wm_313)) (S.2.2.2.2 _ (List.mem_cons_of_mem _ wm_56)) (S.2.2.2.2 _ (List.mem_cons_of_mem _ wm_314)) hfr hlo hc hs hdg ?_
  refine k_top ?_ kk
  by_cases h : u < v
  · rw [Nat.max_eq_right (by omega), if_pos (nI_lt h (by omega))]
  · rw [Nat.max_eq_left (by omega), if_neg (nI_nlt (by omega) (by omega))]
theorem cl_knNumber {own : String} {Ts : List Cond} (S : CallFix p m c cc nL s args Ts own) (hK : va_K D vwCl (tyA cy) s) (hP : va_P D vwCl (X ++ cB cy a σ) H) (hdg : decode cc pc = .ok (.arraylength, 1)) (kk : W p l e R s m args below meth c H locs cells slots Q (F0 m (pc + 1) ls (.int (nI 64) :: rest))) : W p l e R s m args below meth c H locs cells slots Q (F0 m pc ls (.ref (a 8) :: rest)) :=
  va_alen S.1 S.2.1 hK hP (X.length + 8) 0 cw_8 (ty := .int) rfl rfl hdg kk
theorem cl_inNumber {own : String} {Ts : List Cond} (S : CallFix p m c cc nL s args Ts own) (hK : va_K D vwCl (tyA cy) s) (hP : va_P D vwCl (X ++ cB cy a σ) H) (hdg : decode cc pc = .ok (.arraylength, 1)) (kk : W p l e R s m args below meth c H locs cells slots Q (F0 m (pc + 1) ls (.int (nI 512) :: rest))) : W p l e R s m args below meth c H locs cells slots Q (F0 m pc ls (.ref (a 11) :: rest)) :=
  va_alen S.1 S.2.1 hK hP (X.length + 11) 0 cw_11 (ty := .int) rfl rfl hdg kk
end KM
def cClr (nb bb cb cn : Nat) (y : Int32) : Nat → Nat → Int32 → CS → CS
  | 0, _, _, σ => σ
  | n + 1, i, x, σ => if x ≤ 0 then σ else if σ.1 nb i ≤ 0 then cClr nb bb cb cn y n (i + 1) x σ else if y < σ.1 bb i then cClr nb bb cb cn y n (i + 1) (x + Int32.ofInt (-1)) σ else cClr nb bb cb cn y n (i + 1) (x + Int32.ofInt (-1)) (pClear nb cb cn i σ)
def cClrB (nb bb cb cn N : Nat) (y : Int32) (σ : CS) : CS := cClr nb bb cb cn y N 0 (σ.1 0 cn) σ
def up1 (u v : Nat) (σ : CS) : CS := sI 5 (v * 8 + u) (nI 1) (sI 5 (u * 8 + v) (nI 1) σ)
def cUp (u v : Nat) (σ : CS) : CS := if carr (up1 u v σ) u v = true then cSendAll (max u v) (min u v) (cSendAll (min u v) (max u v) (cTell (max u v) (cTell (min u v) (up1 u v σ)))) else up1 u v σ
def fTN (u i : Nat) (σ : CS) : CS := if σ.1 5 (u * 8 + i) = 0 then σ else if σ.1 1 i = 0 then σ else cTell i σ
def cTellN (u : Nat) (σ : CS) : CS := itr (fTN u) 8 0 σ
def fTA (i : Nat) (σ : CS) : CS := if σ.1 6 (i * 8 + i) ≤ 0 then σ else if σ.1 0 2 - σ.1 7 (i * 8 + i) = nI 40 then cTell i σ else σ
def cTellA (σ : CS) : CS := itr fTA 8 0 σ
def cRecvB (row f t o : Nat) (σ : CS) : CS := if o = t then (if σ.1 8 row ≤ σ.1 2 t then σ else cTell t (sI 2 t (σ.1 8 row) σ)) else if σ.1 8 row ≤ σ.1 6 (t * 8 + o) then (if σ.1 6 (t * 8 + o) ≤ σ.1 8 row then σ else cSendKnown t f o σ) else cSpread t o (nI f) (pWrite 6 7 0 3 (t * 8 + o) (σ.1 8 row) (σ.1 9 row) (σ.2 1 row) σ)
def cRecv (row : Nat) (σ : CS) : CS := pClear 8 1 4 row (cRecvB row (row / 64) (row / 8 % 8) (row % 8) σ)
def fArr (i : Nat) (σ : CS) : CS := if σ.1 8 i ≤ 0 then σ else if σ.1 10 i = σ.1 0 2 then cRecv i σ else σ
def cArr (σ : CS) : CS := if σ.1 0 4 = 0 then σ else itr fArr 512 0 σ
def fM0 (g i : Nat) (σ : CS) : CS := if i = g then sI 11 i (nI 0) σ else sI 11 i (nI 1000) σ
def fM3 (v i j : Nat) (σ : CS) : CS := if cStep σ v i j ≤ 0 then σ else if σ.1 11 i ≤ cStep σ v i j + σ.1 11 j then σ else sI 11 i (cStep σ v i j + σ.1 11 j) σ
def fM2 (v i : Nat) (σ : CS) : CS := itr (fM3 v i) 8 0 σ
def fM1 (v : Nat) (_ : Nat) (σ : CS) : CS := itr (fM2 v) 8 0 σ
def cMeas (v g : Nat) (σ : CS) : CS := itr (fM1 v) 7 1 (itr (fM0 g) 8 0 σ)
def fHop (σ : CS) (v i : Nat) : Option Int32 := if cStep σ v v i ≤ 0 then none else if cStep σ v v i + σ.1 11 i = σ.1 11 v then some (nI i) else none
def cHop (v g : Nat) (σ : CS) : Int32 := if v = g then -1 else if (cMeas v g σ).1 11 v < nI 1000 then (srch (fHop (cMeas v g σ) v) 8 0).getD (-1) else -1
def fNbr (σ : CS) (u i : Nat) (x : Int32) : Int32 := if carr σ u i = true then x ||| (nI 1 <<< (nI i &&& 31)) else x
def cNbr (σ : CS) (u : Nat) : Int32 := itr (fNbr σ u) 8 0 (nI 0)
def fJ2 (σ : CS) (i : Nat) (x : Int32) : Int32 := if (x >>> (nI i &&& 31)) &&& nI 1 = nI 1 then x ||| cNbr σ i else x
def fJ1 (σ : CS) (_ : Nat) (x : Int32) : Int32 := itr (fJ2 σ) 8 0 x
def cJoin (σ : CS) (u : Nat) : Int32 := itr (fJ1 σ) 7 1 (nI 1 <<< (nI u &&& 31))
def fAgr (σ : CS) (o i : Nat) : Option Int32 := if (cJoin σ o >>> (nI i &&& 31)) &&& nI 1 = nI 1 then (if σ.1 6 (i * 8 + o) = σ.1 6 (o * 8 + o) then none else some (nI 0)) else none
def cAgr (σ : CS) (o : Nat) : Bool := (srch (fAgr σ o) 8 0).isNone
def fSet (σ : CS) (i : Nat) : Option Int32 := if σ.1 1 i = 0 then none else if cAgr σ i = true then none else some (nI 0)
def cSettled (σ : CS) : Bool := if σ.1 0 4 ≤ 0 then (srch (fSet σ) 8 0).isNone else false
def dGuard (σ : CS) (x y : Int32) : Bool := if isN x = true then if isN y = true then if σ.1 1 x.toNatClampNeg = 0 then false else true else false else false
def cDistS (x y : Int32) (σ : CS) : CS := if isN x = true then if isN y = true then if σ.1 1 x.toNatClampNeg = 0 then σ else cMeas x.toNatClampNeg y.toNatClampNeg σ else σ else σ
def cDist (x y : Int32) (σ : CS) : Int32 := if isN x = true then if isN y = true then if σ.1 1 x.toNatClampNeg = 0 then -1 else if nI 1000 ≤ (cMeas x.toNatClampNeg y.toNatClampNeg σ).1 11 x.toNatClampNeg then -1 else (cMeas x.toNatClampNeg y.toNatClampNeg σ).1 11 x.toNatClampNeg else -1 else -1
def cNext (x y : Int32) (σ : CS) : Int32 := if isN x = true then if isN y = true then if σ.1 1 x.toNatClampNeg = 0 then -1 else cHop x.toNatClampNeg y.toNatClampNeg σ else -1 else -1
def cNews (x y z : Int32) (σ : CS) : Int32 := if isN x = true then if isN y = true then if σ.1 6 (x.toNatClampNeg * 8 + y.toNatClampNeg) = 0 then -1 else if z = nI 0 then σ.1 6 (x.toNatClampNeg * 8 + y.toNatClampNeg) else if z = nI 1 then σ.1 0 2 - σ.1 7 (x.toNatClampNeg * 8 + y.toNatClampNeg) else if z = nI 2 then cntF (σ.2 0 (x.toNatClampNeg * 8 + y.toNatClampNeg)) else if z < nI 10 then -1 else if isN (z - nI 10) = true then costF (σ.2 0 (x.toNatClampNeg * 8 + y.toNatClampNeg)) (z - nI 10).toNatClampNeg else -1 else -1 else -1
end
section
set_option maxHeartbeats 400000 in
set_option maxRecDepth 100000 in
theorem c_X1_clearBornUntil_known (l : Launch) (D : va_G) (cy : Nat → ClassId) (a : Nat → Nat) (X : va_W) (σ : CS) (y : Int32)  : MetV l yX1_clearBornUntil cX1_clearBornUntil 4 (kRm 1 0 0) D (tyA cy) nestC [.ref (a 6), .int (y)] (X ++ cB cy a σ) (X ++ cB cy a (cClrB 6 7 0 3 64 y σ)) 0 0 := by
  intro sz
  refine kmet (own := RX1) (by decide) rfl (Nat.le_of_ble_eq_true rfl) (fun p e s m args below meth c S hr hlk hK hN hP hD hsz hA hnm ls hl => ?_)
  have hS : va_S (va_A (X ++ cB cy a σ) sz) s.heap s.heap [] := va_S.rf
  have hl : lv_has ls 4 [(0, .ref (a 6)), (1, .int (y))] := hl
  refine lv_aload_n S.1 S.2.1 dX1_clearBornUntil_0 rfl (lv_at hl 0 rfl) ?_
  refine cf_known_count S hK hP dX1_clearBornUntil_1 ?_
  refine lv_istore_n (lv' := [(2, .int (σ.1 0 3)), (0, .ref (a 6)), (1, .int (y))]) S.1 S.2.1 dX1_clearBornUntil_4 rfl hl (by decide) rfl (fun ls hl => ?_)
  refine lv_iconst (v := (nI 0)) S.1 S.2.1 dX1_clearBornUntil_5 (by decide) ?_
  refine lv_istore_n (lv' := [(3, .int (nI 0)), (2, .int (σ.1 0 3)), (0, .ref (a 6)), (1, .int (y))]) S.1 S.2.1 dX1_clearBornUntil_6 rfl hl (by decide) rfl (fun ls hl => ?_)
  have lp1 : ∀ (n1 i1 : Nat) (σ1 : CS) (x1_0 : Int32), i1 + n1 = 64 → cClr 6 7 0 3 y n1 i1 x1_0 σ1 = cClr 6 7 0 3 y 64 0 (σ.1 0 3) σ → ∀ (H : Heap) (locs : List Loc), va_P D vwCl (X ++ cB cy a σ1) H → va_D (va_A (X ++ cB cy a σ) sz) (X ++ cB cy a σ1) → va_S (va_A (X ++ cB cy a σ) sz) s.heap H locs → ∀ ls : Array Slot, lv_has ls 4 [(3, .int (nI (i1))), (2, .int (x1_0)), (0, .ref (a 6)), (1, .int (y))] → W p l e (kRm 1 0 0) s m args below meth c H locs 0 0 (MQ below (kQv D (X ++ cB cy a σ) (X ++ cB cy a (cClrB 6 7 0 3 64 y σ)) sz) args s 0 0 (va_A (X ++ cB cy a σ) sz)) (F0 m 7 ls []) := by
    intro n1
    induction n1 with
    | zero =>
      intro i1 σ1 x1_0 hi1 he1 H locs hP hD hS ls hl
      have hi1 : i1 = 64 := by omega
      have he1 : σ1 = cClr 6 7 0 3 y 64 0 (σ.1 0 3) σ := he1
      refine lv_iload_n S.1 S.2.1 dX1_clearBornUntil_7 rfl (lv_at hl 0 rfl) ?_
      refine lv_aload_n S.1 S.2.1 dX1_clearBornUntil_8 rfl (lv_at hl 2 rfl) ?_
      refine cf_known_number S hK hP dX1_clearBornUntil_9 ?_
      refine cl_knNumber S hK hP dX1_clearBornUntil_12 ?_
      refine lv_icmp_ge (tgt := 53) S.1 S.2.1 dX1_clearBornUntil_13 (by decide) (fun _ => ?_) (fun c => absurd (nI_le (by omega) (by omega)) c)
      have e9 : cClrB 6 7 0 3 64 y σ = σ1 := by first | (simp only [cClrB, ← he1, reduceIte, Bool.false_eq_true, eq_self_iff_true, if_true, if_false]; done) | with_reducible rfl
      rw [e9]
      exact kret_v S hr hlk hP hD hS dX1_clearBornUntil_53
    | succ n1 ih1 =>
      intro i1 σ1 x1_0 hi1 he1 H locs hP hD hS ls hl
      have hlt1 : i1 < 64 := by omega
      refine lv_iload_n S.1 S.2.1 dX1_clearBornUntil_7 rfl (lv_at hl 0 rfl) ?_
      refine lv_aload_n S.1 S.2.1 dX1_clearBornUntil_8 rfl (lv_at hl 2 rfl) ?_
      refine cf_known_number S hK hP dX1_clearBornUntil_9 ?_
      refine cl_knNumber S hK hP dX1_clearBornUntil_12 ?_
      refine lv_icmp_ge (tgt := 53) S.1 S.2.1 dX1_clearBornUntil_13 (by decide) (fun c => absurd c (nI_ge (by omega) (by omega))) (fun _ => ?_)
      refine lv_iload_n S.1 S.2.1 dX1_clearBornUntil_16 rfl (lv_at hl 1 rfl) ?_
      refine lv_if_le (tgt := 53) S.1 S.2.1 dX1_clearBornUntil_17 (by decide) (fun c4 => ?_) (fun c4 => ?_)
      · have he1 : σ1 = cClr 6 7 0 3 y 64 0 (σ.1 0 3) σ := by rw [← he1]; first | (simp only [cClr, c4, reduceIte, Bool.false_eq_true, eq_self_iff_true, if_true, if_false]; done) | with_reducible rfl
        have e9 : cClrB 6 7 0 3 64 y σ = σ1 := by first | (simp only [cClrB, c4, ← he1, reduceIte, Bool.false_eq_true, eq_self_iff_true, if_true, if_false]; done) | with_reducible rfl
        rw [e9]
        exact kret_v S hr hlk hP hD hS dX1_clearBornUntil_53
      · refine lv_aload_n S.1 S.2.1 dX1_clearBornUntil_20 rfl (lv_at hl 2 rfl) ?_
        refine cf_known_number S hK hP dX1_clearBornUntil_21 ?_
        refine lv_iload_n S.1 S.2.1 dX1_clearBornUntil_24 rfl (lv_at hl 0 rfl) ?_
        refine ca_knNumber S hK hP (j := i1) (by omega) dX1_clearBornUntil_25 ?_
        refine lv_if_le (tgt := 47) S.1 S.2.1 dX1_clearBornUntil_26 (by decide) (fun c5 => ?_) (fun c5 => ?_)
        · refine lv_iinc (v := (nI (i1 + 1))) (lv' := [(3, .int (nI (i1 + 1))), (2, .int (x1_0)), (0, .ref (a 6)), (1, .int (y))]) S.1 S.2.1 dX1_clearBornUntil_47 hl (k := 0) rfl (nI_add _ 1) (by decide) rfl (fun ls hl => ?_)
          refine lv_goto (tgt := 7) S.1 S.2.1 dX1_clearBornUntil_50 (by decide) ?_
          exact ih1 (i1 + 1) σ1 ((x1_0)) (by omega) (by rw [← he1]; first | (simp only [cClr, c4, c5, reduceIte, Bool.false_eq_true, eq_self_iff_true, if_true, if_false]; done) | with_reducible rfl) _ _ hP hD hS _ (lv_sub hl [0, 1, 2, 3] rfl)
        · refine lv_iinc (v := ((x1_0) + (Int32.ofInt (-1)))) (lv' := [(2, .int ((x1_0) + (Int32.ofInt (-1)))), (3, .int (nI (i1))), (0, .ref (a 6)), (1, .int (y))]) S.1 S.2.1 dX1_clearBornUntil_29 hl (k := 1) rfl rfl (by decide) rfl (fun ls hl => ?_)
          refine lv_aload_n S.1 S.2.1 dX1_clearBornUntil_32 rfl (lv_at hl 2 rfl) ?_
          refine cf_known_born S hK hP dX1_clearBornUntil_33 ?_
          refine lv_iload_n S.1 S.2.1 dX1_clearBornUntil_36 rfl (lv_at hl 1 rfl) ?_
          refine ca_knBorn S hK hP (j := i1) (by omega) dX1_clearBornUntil_37 ?_
          refine lv_iload_n S.1 S.2.1 dX1_clearBornUntil_38 rfl (lv_at hl 3 rfl) ?_
          refine lv_icmp_gt (tgt := 47) S.1 S.2.1 dX1_clearBornUntil_39 (by decide) (fun c6 => ?_) (fun c6 => ?_)
          · refine lv_iinc (v := (nI (i1 + 1))) (lv' := [(3, .int (nI (i1 + 1))), (2, .int ((x1_0) + (Int32.ofInt (-1)))), (0, .ref (a 6)), (1, .int (y))]) S.1 S.2.1 dX1_clearBornUntil_47 hl (k := 1) rfl (nI_add _ 1) (by decide) rfl (fun ls hl => ?_)
            refine lv_goto (tgt := 7) S.1 S.2.1 dX1_clearBornUntil_50 (by decide) ?_
            exact ih1 (i1 + 1) σ1 (((x1_0) + (Int32.ofInt (-1)))) (by omega) (by rw [← he1]; first | (simp only [cClr, c4, c5, c6, reduceIte, Bool.false_eq_true, eq_self_iff_true, if_true, if_false]; done) | with_reducible rfl) _ _ hP hD hS _ (lv_sub hl [0, 1, 2, 3] rfl)
          · refine lv_aload_n S.1 S.2.1 dX1_clearBornUntil_42 rfl (lv_at hl 2 rfl) ?_
            refine lv_iload_n S.1 S.2.1 dX1_clearBornUntil_43 rfl (lv_at hl 1 rfl) ?_
            refine call_X1_clear_known_X1 S hK hN hP hD hS hA (row := i1) (by omega) hl.1 (Nat.le_of_ble_eq_true rfl) ⟨Nat.le_of_ble_eq_true rfl, Nat.le_of_ble_eq_true rfl⟩ dX1_clearBornUntil_44 ⟨Nat.le_refl _, Nat.le_refl _⟩ (fun H locs hP hD hS => ?_)
            refine lv_iinc (v := (nI (i1 + 1))) (lv' := [(3, .int (nI (i1 + 1))), (2, .int ((x1_0) + (Int32.ofInt (-1)))), (0, .ref (a 6)), (1, .int (y))]) S.1 S.2.1 dX1_clearBornUntil_47 hl (k := 1) rfl (nI_add _ 1) (by decide) rfl (fun ls hl => ?_)
            refine lv_goto (tgt := 7) S.1 S.2.1 dX1_clearBornUntil_50 (by decide) ?_
            exact ih1 (i1 + 1) (pClear 6 0 3 i1 σ1) (((x1_0) + (Int32.ofInt (-1)))) (by omega) (by rw [← he1]; first | (simp only [cClr, c4, c5, c6, reduceIte, Bool.false_eq_true, eq_self_iff_true, if_true, if_false]; done) | with_reducible rfl) _ _ hP hD hS _ (lv_sub hl [0, 1, 2, 3] rfl)
  exact lp1 64 0 σ ((σ.1 0 3)) (by omega) rfl _ _ hP hD hS _ (lv_sub hl [0, 1, 2, 3] rfl)
theorem call_X1_clearBornUntil_known {p : Program} {l : Launch} {e : Env} {R : Room} {s : State} {m : MethodId} {args : Array Value} {below : List Frame} {meth : Method} {c : Code} {H : Heap} {locs : List Loc} {cells slots : Nat} {Q : State → Prop} {cc : ByteArray} {pc nL : Nat} {ls : Array Slot} {rest : List Value} {D : va_G} {A : Nat → Prop} {w0 : Cond} {X : va_W} {cy : Nat → ClassId} {a : Nat → Nat} {σ : CS} (S : CallFix p m c cc nL s args (w0 :: gw) RX2) (hK : va_K D vwCl (tyA cy) s) (hN : kN nestC s) (hP : va_P D vwCl (X ++ cB cy a σ) H) (hD : va_D A (X ++ cB cy a σ)) (hS : va_S A s.heap H locs) (hA : ∀ q, s.heap.size ≤ q → A q) {y : Int32}  (hsz : ls.size = nL) (hW : (rest.map fun v => v.category).sum ≤ 8) (hR : 1 + 1 ≤ R.frames ∧ 8 + (4 + 11) + 32 * 1 ≤ R.locals) (hdg : decode cc pc = .ok (.invokevirtual 121, 3)) (hfc : cells ≤ R.cells ∧ slots ≤ R.slots)
    (kk : ∀ (H1 : Heap) (locs1 : List Loc), va_P D vwCl (X ++ cB cy a (cClrB 6 7 0 3 64 y σ)) H1 → va_D A (X ++ cB cy a (cClrB 6 7 0 3 64 y σ)) → va_S A s.heap H1 locs1 → W p l e R s m args below meth c H1 locs1 cells slots Q (F0 m (pc + 3) ls (rest))) : W p l e R s m args below meth c H locs cells slots Q (F0 m pc ls (.int (y) :: .ref (a 6) :: rest)) :=
  kgo_v (va_runVN (As := [.int (y)]) (rest := rest) S (c_X1_clearBornUntil_known l D cy a X σ y  H.size) ⟨va_cnB 1 S.2.2.2.2 (gw_good_in wm_407) rfl rfl rfl (hN _ nc_11) (S.2.2.2.2 _ (List.mem_cons_of_mem _ wm_49)) (by decide +kernel) hR, (S.2.2.2.2 _ (List.mem_cons_of_mem _ wm_406)), (S.2.2.2.2 _ (List.mem_cons_of_mem _ wm_24))⟩ ⟨kblind nestC_ok, crecv_known hK hP, kpre nestC_ok hN hK hP hD⟩ rfl rfl hsz rfl (lv_room hW) hdg hfc) hD hS hA kk
set_option maxHeartbeats 400000 in
set_option maxRecDepth 100000 in
theorem c_X1_clearBornUntil_inFlight (l : Launch) (D : va_G) (cy : Nat → ClassId) (a : Nat → Nat) (X : va_W) (σ : CS) (y : Int32)  : MetV l yX1_clearBornUntil cX1_clearBornUntil 4 (kRm 1 0 0) D (tyA cy) nestC [.ref (a 7), .int (y)] (X ++ cB cy a σ) (X ++ cB cy a (cClrB 8 9 1 4 512 y σ)) 0 0 := by
  intro sz
  refine kmet (own := RX1) (by decide) rfl (Nat.le_of_ble_eq_true rfl) (fun p e s m args below meth c S hr hlk hK hN hP hD hsz hA hnm ls hl => ?_)
  have hS : va_S (va_A (X ++ cB cy a σ) sz) s.heap s.heap [] := va_S.rf
  have hl : lv_has ls 4 [(0, .ref (a 7)), (1, .int (y))] := hl
  refine lv_aload_n S.1 S.2.1 dX1_clearBornUntil_0 rfl (lv_at hl 0 rfl) ?_
  refine cf_inFlight_count S hK hP dX1_clearBornUntil_1 ?_
  refine lv_istore_n (lv' := [(2, .int (σ.1 0 4)), (0, .ref (a 7)), (1, .int (y))]) S.1 S.2.1 dX1_clearBornUntil_4 rfl hl (by decide) rfl (fun ls hl => ?_)
  refine lv_iconst (v := (nI 0)) S.1 S.2.1 dX1_clearBornUntil_5 (by decide) ?_
  refine lv_istore_n (lv' := [(3, .int (nI 0)), (2, .int (σ.1 0 4)), (0, .ref (a 7)), (1, .int (y))]) S.1 S.2.1 dX1_clearBornUntil_6 rfl hl (by decide) rfl (fun ls hl => ?_)
  have lp1 : ∀ (n1 i1 : Nat) (σ1 : CS) (x1_0 : Int32), i1 + n1 = 512 → cClr 8 9 1 4 y n1 i1 x1_0 σ1 = cClr 8 9 1 4 y 512 0 (σ.1 0 4) σ → ∀ (H : Heap) (locs : List Loc), va_P D vwCl (X ++ cB cy a σ1) H → va_D (va_A (X ++ cB cy a σ) sz) (X ++ cB cy a σ1) → va_S (va_A (X ++ cB cy a σ) sz) s.heap H locs → ∀ ls : Array Slot, lv_has ls 4 [(3, .int (nI (i1))), (2, .int (x1_0)), (0, .ref (a 7)), (1, .int (y))] → W p l e (kRm 1 0 0) s m args below meth c H locs 0 0 (MQ below (kQv D (X ++ cB cy a σ) (X ++ cB cy a (cClrB 8 9 1 4 512 y σ)) sz) args s 0 0 (va_A (X ++ cB cy a σ) sz)) (F0 m 7 ls []) := by
    intro n1
    induction n1 with
    | zero =>
      intro i1 σ1 x1_0 hi1 he1 H locs hP hD hS ls hl
      have hi1 : i1 = 512 := by omega
      have he1 : σ1 = cClr 8 9 1 4 y 512 0 (σ.1 0 4) σ := he1
      refine lv_iload_n S.1 S.2.1 dX1_clearBornUntil_7 rfl (lv_at hl 0 rfl) ?_
      refine lv_aload_n S.1 S.2.1 dX1_clearBornUntil_8 rfl (lv_at hl 2 rfl) ?_
      refine cf_inFlight_number S hK hP dX1_clearBornUntil_9 ?_
      refine cl_inNumber S hK hP dX1_clearBornUntil_12 ?_
      refine lv_icmp_ge (tgt := 53) S.1 S.2.1 dX1_clearBornUntil_13 (by decide) (fun _ => ?_) (fun c => absurd (nI_le (by omega) (by omega)) c)
      have e9 : cClrB 8 9 1 4 512 y σ = σ1 := by first | (simp only [cClrB, ← he1, reduceIte, Bool.false_eq_true, eq_self_iff_true, if_true, if_false]; done) | with_reducible rfl
      rw [e9]
      exact kret_v S hr hlk hP hD hS dX1_clearBornUntil_53
    | succ n1 ih1 =>
      intro i1 σ1 x1_0 hi1 he1 H locs hP hD hS ls hl
      have hlt1 : i1 < 512 := by omega
      refine lv_iload_n S.1 S.2.1 dX1_clearBornUntil_7 rfl (lv_at hl 0 rfl) ?_
      refine lv_aload_n S.1 S.2.1 dX1_clearBornUntil_8 rfl (lv_at hl 2 rfl) ?_
      refine cf_inFlight_number S hK hP dX1_clearBornUntil_9 ?_
      refine cl_inNumber S hK hP dX1_clearBornUntil_12 ?_
      refine lv_icmp_ge (tgt := 53) S.1 S.2.1 dX1_clearBornUntil_13 (by decide) (fun c => absurd c (nI_ge (by omega) (by omega))) (fun _ => ?_)
      refine lv_iload_n S.1 S.2.1 dX1_clearBornUntil_16 rfl (lv_at hl 1 rfl) ?_
      refine lv_if_le (tgt := 53) S.1 S.2.1 dX1_clearBornUntil_17 (by decide) (fun c4 => ?_) (fun c4 => ?_)
      · have he1 : σ1 = cClr 8 9 1 4 y 512 0 (σ.1 0 4) σ := by rw [← he1]; first | (simp only [cClr, c4, reduceIte, Bool.false_eq_true, eq_self_iff_true, if_true, if_false]; done) | with_reducible rfl
        have e9 : cClrB 8 9 1 4 512 y σ = σ1 := by first | (simp only [cClrB, c4, ← he1, reduceIte, Bool.false_eq_true, eq_self_iff_true, if_true, if_false]; done) | with_reducible rfl
        rw [e9]
        exact kret_v S hr hlk hP hD hS dX1_clearBornUntil_53
      · refine lv_aload_n S.1 S.2.1 dX1_clearBornUntil_20 rfl (lv_at hl 2 rfl) ?_
        refine cf_inFlight_number S hK hP dX1_clearBornUntil_21 ?_
        refine lv_iload_n S.1 S.2.1 dX1_clearBornUntil_24 rfl (lv_at hl 0 rfl) ?_
        refine ca_inNumber S hK hP (j := i1) (by omega) dX1_clearBornUntil_25 ?_
        refine lv_if_le (tgt := 47) S.1 S.2.1 dX1_clearBornUntil_26 (by decide) (fun c5 => ?_) (fun c5 => ?_)
        · refine lv_iinc (v := (nI (i1 + 1))) (lv' := [(3, .int (nI (i1 + 1))), (2, .int (x1_0)), (0, .ref (a 7)), (1, .int (y))]) S.1 S.2.1 dX1_clearBornUntil_47 hl (k := 0) rfl (nI_add _ 1) (by decide) rfl (fun ls hl => ?_)
          refine lv_goto (tgt := 7) S.1 S.2.1 dX1_clearBornUntil_50 (by decide) ?_
          exact ih1 (i1 + 1) σ1 ((x1_0)) (by omega) (by rw [← he1]; first | (simp only [cClr, c4, c5, reduceIte, Bool.false_eq_true, eq_self_iff_true, if_true, if_false]; done) | with_reducible rfl) _ _ hP hD hS _ (lv_sub hl [0, 1, 2, 3] rfl)
        · refine lv_iinc (v := ((x1_0) + (Int32.ofInt (-1)))) (lv' := [(2, .int ((x1_0) + (Int32.ofInt (-1)))), (3, .int (nI (i1))), (0, .ref (a 7)), (1, .int (y))]) S.1 S.2.1 dX1_clearBornUntil_29 hl (k := 1) rfl rfl (by decide) rfl (fun ls hl => ?_)
          refine lv_aload_n S.1 S.2.1 dX1_clearBornUntil_32 rfl (lv_at hl 2 rfl) ?_
          refine cf_inFlight_born S hK hP dX1_clearBornUntil_33 ?_
          refine lv_iload_n S.1 S.2.1 dX1_clearBornUntil_36 rfl (lv_at hl 1 rfl) ?_
          refine ca_inBorn S hK hP (j := i1) (by omega) dX1_clearBornUntil_37 ?_
          refine lv_iload_n S.1 S.2.1 dX1_clearBornUntil_38 rfl (lv_at hl 3 rfl) ?_
          refine lv_icmp_gt (tgt := 47) S.1 S.2.1 dX1_clearBornUntil_39 (by decide) (fun c6 => ?_) (fun c6 => ?_)
          · refine lv_iinc (v := (nI (i1 + 1))) (lv' := [(3, .int (nI (i1 + 1))), (2, .int ((x1_0) + (Int32.ofInt (-1)))), (0, .ref (a 7)), (1, .int (y))]) S.1 S.2.1 dX1_clearBornUntil_47 hl (k := 1) rfl (nI_add _ 1) (by decide) rfl (fun ls hl => ?_)
            refine lv_goto (tgt := 7) S.1 S.2.1 dX1_clearBornUntil_50 (by decide) ?_
            exact ih1 (i1 + 1) σ1 (((x1_0) + (Int32.ofInt (-1)))) (by omega) (by rw [← he1]; first | (simp only [cClr, c4, c5, c6, reduceIte, Bool.false_eq_true, eq_self_iff_true, if_true, if_false]; done) | with_reducible rfl) _ _ hP hD hS _ (lv_sub hl [0, 1, 2, 3] rfl)
          · refine lv_aload_n S.1 S.2.1 dX1_clearBornUntil_42 rfl (lv_at hl 2 rfl) ?_
            refine lv_iload_n S.1 S.2.1 dX1_clearBornUntil_43 rfl (lv_at hl 1 rfl) ?_
            refine call_X1_clear_inFlight_X1 S hK hN hP hD hS hA (row := i1) (by omega) hl.1 (Nat.le_of_ble_eq_true rfl) ⟨Nat.le_of_ble_eq_true rfl, Nat.le_of_ble_eq_true rfl⟩ dX1_clearBornUntil_44 ⟨Nat.le_refl _, Nat.le_refl _⟩ (fun H locs hP hD hS => ?_)
            refine lv_iinc (v := (nI (i1 + 1))) (lv' := [(3, .int (nI (i1 + 1))), (2, .int ((x1_0) + (Int32.ofInt (-1)))), (0, .ref (a 7)), (1, .int (y))]) S.1 S.2.1 dX1_clearBornUntil_47 hl (k := 1) rfl (nI_add _ 1) (by decide) rfl (fun ls hl => ?_)
            refine lv_goto (tgt := 7) S.1 S.2.1 dX1_clearBornUntil_50 (by decide) ?_
            exact ih1 (i1 + 1) (pClear 8 1 4 i1 σ1) (((x1_0) + (Int32.ofInt (-1)))) (by omega) (by rw [← he1]; first | (simp only [cClr, c4, c5, c6, reduceIte, Bool.false_eq_true, eq_self_iff_true, if_true, if_false]; done) | with_reducible rfl) _ _ hP hD hS _ (lv_sub hl [0, 1, 2, 3] rfl)
  exact lp1 512 0 σ ((σ.1 0 4)) (by omega) rfl _ _ hP hD hS _ (lv_sub hl [0, 1, 2, 3] rfl)
theorem call_X1_clearBornUntil_inFlight {p : Program} {l : Launch} {e : Env} {R : Room} {s : State} {m : MethodId} {args : Array Value} {below : List Frame} {meth : Method} {c : Code} {H : Heap} {locs : List Loc} {cells slots : Nat} {Q : State → Prop} {cc : ByteArray} {pc nL : Nat} {ls : Array Slot} {rest : List Value} {D : va_G} {A : Nat → Prop} {w0 : Cond} {X : va_W} {cy : Nat → ClassId} {a : Nat → Nat} {σ : CS} (S : CallFix p m c cc nL s args (w0 :: gw) RX2) (hK : va_K D vwCl (tyA cy) s) (hN : kN nestC s) (hP : va_P D vwCl (X ++ cB cy a σ) H) (hD : va_D A (X ++ cB cy a σ)) (hS : va_S A s.heap H locs) (hA : ∀ q, s.heap.size ≤ q → A q) {y : Int32}  (hsz : ls.size = nL) (hW : (rest.map fun v => v.category).sum ≤ 8) (hR : 1 + 1 ≤ R.frames ∧ 8 + (4 + 11) + 32 * 1 ≤ R.locals) (hdg : decode cc pc = .ok (.invokevirtual 121, 3)) (hfc : cells ≤ R.cells ∧ slots ≤ R.slots)
    (kk : ∀ (H1 : Heap) (locs1 : List Loc), va_P D vwCl (X ++ cB cy a (cClrB 8 9 1 4 512 y σ)) H1 → va_D A (X ++ cB cy a (cClrB 8 9 1 4 512 y σ)) → va_S A s.heap H1 locs1 → W p l e R s m args below meth c H1 locs1 cells slots Q (F0 m (pc + 3) ls (rest))) : W p l e R s m args below meth c H locs cells slots Q (F0 m pc ls (.int (y) :: .ref (a 7) :: rest)) :=
  kgo_v (va_runVN (As := [.int (y)]) (rest := rest) S (c_X1_clearBornUntil_inFlight l D cy a X σ y  H.size) ⟨va_cnB 1 S.2.2.2.2 (gw_good_in wm_407) rfl rfl rfl (hN _ nc_11) (S.2.2.2.2 _ (List.mem_cons_of_mem _ wm_49)) (by decide +kernel) hR, (S.2.2.2.2 _ (List.mem_cons_of_mem _ wm_406)), (S.2.2.2.2 _ (List.mem_cons_of_mem _ wm_24))⟩ ⟨kblind nestC_ok, crecv_inFlight hK hP, kpre nestC_ok hN hK hP hD⟩ rfl rfl hsz rfl (lv_room hW) hdg hfc) hD hS hA kk
set_option maxHeartbeats 400000 in
set_option maxRecDepth 100000 in
theorem c_X2_hasLink (l : Launch) (D : va_G) (cy : Nat → ClassId) (a : Nat → Nat) (X : va_W) (σ : CS) (x : Int32) (y : Int32)  : MetI l yX2_hasLink cX2_hasLink 3 .boolean (kRm 1 0 0) D (tyA cy) nestC [.ref (a 0), .int (x), .int (y)] (X ++ cB cy a σ) (X ++ cB cy a σ) (b2i (hasL σ x y)) 0 0 := by
  intro sz
  refine kmet (own := RX2) (by decide) rfl (Nat.le_of_ble_eq_true rfl) (fun p e s m args below meth c S hr hlk hK hN hP hD hsz hA hnm ls hl => ?_)
  have hS : va_S (va_A (X ++ cB cy a σ) sz) s.heap s.heap [] := va_S.rf
  have hl : lv_has ls 3 [(0, .ref (a 0)), (1, .int (x)), (2, .int (y))] := hl
  refine lv_iload_n S.1 S.2.1 dX2_hasLink_0 rfl (lv_at hl 1 rfl) ?_
  refine call_X2_isNode S hK hN hP hD hS hA (x := x)  hl.1 (Nat.le_of_ble_eq_true rfl) ⟨Nat.le_of_ble_eq_true rfl, Nat.le_of_ble_eq_true rfl⟩ dX2_hasLink_1 ⟨Nat.le_refl _, Nat.le_refl _⟩ (fun H locs hP hD hS => ?_)
  refine kb_eq (tgt := 31) S dX2_hasLink_4 (by decide) (fun c1 => ?_) (fun c1 => ?_)
  · refine lv_iconst (v := (nI 0)) S.1 S.2.1 dX2_hasLink_31 (by decide) ?_
    exact kret_z S hr hlk hP hD hS (by first | rfl | exact b2i_nar _) (by rw [show hasL σ x y = false from (by first | (simp only [hasL, c1, reduceIte, Bool.false_eq_true, eq_self_iff_true, if_true, if_false]; done) | with_reducible rfl)]; decide) dX2_hasLink_32
  · obtain ⟨x1, hx1, rfl⟩ := isN_of c1
    refine lv_iload_n S.1 S.2.1 dX2_hasLink_7 rfl (lv_at hl 2 rfl) ?_
    refine call_X2_isNode S hK hN hP hD hS hA (x := y)  hl.1 (Nat.le_of_ble_eq_true rfl) ⟨Nat.le_of_ble_eq_true rfl, Nat.le_of_ble_eq_true rfl⟩ dX2_hasLink_8 ⟨Nat.le_refl _, Nat.le_refl _⟩ (fun H locs hP hD hS => ?_)
    refine kb_eq (tgt := 31) S dX2_hasLink_11 (by decide) (fun c2 => ?_) (fun c2 => ?_)
    · refine lv_iconst (v := (nI 0)) S.1 S.2.1 dX2_hasLink_31 (by decide) ?_
      exact kret_z S hr hlk hP hD hS (by first | rfl | exact b2i_nar _) (by rw [show hasL σ (nI x1) y = false from (by first | (simp only [hasL, c1, cl8 hx1, c2, reduceIte, Bool.false_eq_true, eq_self_iff_true, if_true, if_false]; done) | with_reducible rfl)]; decide) dX2_hasLink_32
    · obtain ⟨y1, hy1, rfl⟩ := isN_of c2
      refine lv_aload_n S.1 S.2.1 dX2_hasLink_14 rfl (lv_at hl 0 rfl) ?_
      refine cf_net_linkCost S hK hP dX2_hasLink_15 ?_
      refine lv_iload_n S.1 S.2.1 dX2_hasLink_18 rfl (lv_at hl 1 rfl) ?_
      refine lv_iload_n S.1 S.2.1 dX2_hasLink_19 rfl (lv_at hl 2 rfl) ?_
      refine call_X2_pair S hK hN hP hD hS hA (u := x1) (v := y1)  hl.1 (Nat.le_of_ble_eq_true rfl) ⟨Nat.le_of_ble_eq_true rfl, Nat.le_of_ble_eq_true rfl⟩ dX2_hasLink_20 ⟨Nat.le_refl _, Nat.le_refl _⟩ (fun H locs hP hD hS => ?_)
      refine ca_linkCost S hK hP (j := (x1 * 8 + y1)) (by omega) dX2_hasLink_23 ?_
      refine lv_if_le (tgt := 31) S.1 S.2.1 dX2_hasLink_24 (by decide) (fun c3 => ?_) (fun c3 => ?_)
      · refine lv_iconst (v := (nI 0)) S.1 S.2.1 dX2_hasLink_31 (by decide) ?_
        exact kret_z S hr hlk hP hD hS (by first | rfl | exact b2i_nar _) (by rw [show hasL σ (nI x1) (nI y1) = false from (by first | (simp only [hasL, c1, cl8 hx1, c2, cl8 hy1, c3, reduceIte, Bool.false_eq_true, eq_self_iff_true, if_true, if_false]; done) | with_reducible rfl)]; decide) dX2_hasLink_32
      · refine lv_iconst (v := (nI 1)) S.1 S.2.1 dX2_hasLink_27 (by decide) ?_
        refine lv_goto (tgt := 32) S.1 S.2.1 dX2_hasLink_28 (by decide) ?_
        exact kret_z S hr hlk hP hD hS (by first | rfl | exact b2i_nar _) (by rw [show hasL σ (nI x1) (nI y1) = true from (by first | (simp only [hasL, c1, cl8 hx1, c2, cl8 hy1, c3, reduceIte, Bool.false_eq_true, eq_self_iff_true, if_true, if_false]; done) | with_reducible rfl)]; decide) dX2_hasLink_32
theorem call_X2_hasLink {p : Program} {l : Launch} {e : Env} {R : Room} {s : State} {m : MethodId} {args : Array Value} {below : List Frame} {meth : Method} {c : Code} {H : Heap} {locs : List Loc} {cells slots : Nat} {Q : State → Prop} {cc : ByteArray} {pc nL : Nat} {ls : Array Slot} {rest : List Value} {D : va_G} {A : Nat → Prop} {w0 : Cond} {X : va_W} {cy : Nat → ClassId} {a : Nat → Nat} {σ : CS} (S : CallFix p m c cc nL s args (w0 :: gw) RX2) (hK : va_K D vwCl (tyA cy) s) (hN : kN nestC s) (hP : va_P D vwCl (X ++ cB cy a σ) H) (hD : va_D A (X ++ cB cy a σ)) (hS : va_S A s.heap H locs) (hA : ∀ q, s.heap.size ≤ q → A q) {x : Int32} {y : Int32}  (hsz : ls.size = nL) (hW : (rest.map fun v => v.category).sum ≤ 8) (hR : 1 + 1 ≤ R.frames ∧ 8 + (3 + 11) + 32 * 1 ≤ R.locals) (hdg : decode cc pc = .ok (.invokevirtual 63, 3)) (hfc : cells ≤ R.cells ∧ slots ≤ R.slots)
    (kk : ∀ (H1 : Heap) (locs1 : List Loc), va_P D vwCl (X ++ cB cy a σ) H1 → va_D A (X ++ cB cy a σ) → va_S A s.heap H1 locs1 → W p l e R s m args below meth c H1 locs1 cells slots Q (F0 m (pc + 3) ls (.int (b2i (hasL σ x y)) :: rest))) : W p l e R s m args below meth c H locs cells slots Q (F0 m pc ls (.int (y) :: .int (x) :: .ref (a 0) :: rest)) :=
  kgo_i (va_runV (As := [.int (x), .int (y)]) (rest := rest) S (c_X2_hasLink l D cy a X σ x y  H.size) (cwV 2 S.2.2.2.2 (gw_good_1 wm_281 (gw_good_1 wm_283 (gw_good_1 wm_10 (gw_good_1 wm_48 (gw_good_in wm_284))))) rfl rfl rfl (by decide +kernel) hR) ⟨kblind nestC_ok, crecv_net hK hP, kpre nestC_ok hN hK hP hD⟩ rfl rfl hsz rfl (lv_room hW) hdg hfc) hD hS hA kk
set_option maxHeartbeats 400000 in
set_option maxRecDepth 100000 in
theorem c_X2_bringUp (l : Launch) (D : va_G) (cy : Nat → ClassId) (a : Nat → Nat) (X : va_W) (σ : CS) (u : Nat) (v : Nat) (hu : u < 8) (hv : v < 8) : MetV l yX2_bringUp cX2_bringUp 5 (kRm 4 0 0) D (tyA cy) nestC [.ref (a 0), .int (nI (u)), .int (nI (v))] (X ++ cB cy a σ) (X ++ cB cy a (cUp u v σ)) 0 0 := by
  intro sz
  refine kmet (own := RX2) (by decide) rfl (Nat.le_of_ble_eq_true rfl) (fun p e s m args below meth c S hr hlk hK hN hP hD hsz hA hnm ls hl => ?_)
  have hS : va_S (va_A (X ++ cB cy a σ) sz) s.heap s.heap [] := va_S.rf
  have hl : lv_has ls 5 [(0, .ref (a 0)), (1, .int (nI (u))), (2, .int (nI (v)))] := hl
  refine lv_aload_n S.1 S.2.1 dX2_bringUp_0 rfl (lv_at hl 0 rfl) ?_
  refine cf_net_linkUp S hK hP dX2_bringUp_1 ?_
  refine lv_iload_n S.1 S.2.1 dX2_bringUp_4 rfl (lv_at hl 1 rfl) ?_
  refine lv_iload_n S.1 S.2.1 dX2_bringUp_5 rfl (lv_at hl 2 rfl) ?_
  refine call_X2_pair S hK hN hP hD hS hA (u := u) (v := v)  hl.1 (Nat.le_of_ble_eq_true rfl) ⟨Nat.le_of_ble_eq_true rfl, Nat.le_of_ble_eq_true rfl⟩ dX2_bringUp_6 ⟨Nat.le_refl _, Nat.le_refl _⟩ (fun H locs hP hD hS => ?_)
  refine lv_iconst (v := (nI 1)) S.1 S.2.1 dX2_bringUp_9 (by decide) ?_
  refine cs_linkUp S hK hP hD hS (j := (u * 8 + v)) (by omega) (by decide) dX2_bringUp_10 (fun H locs hP hD hS => ?_)
  refine lv_aload_n S.1 S.2.1 dX2_bringUp_11 rfl (lv_at hl 0 rfl) ?_
  refine cf_net_linkUp S hK hP dX2_bringUp_12 ?_
  refine lv_iload_n S.1 S.2.1 dX2_bringUp_15 rfl (lv_at hl 2 rfl) ?_
  refine lv_iload_n S.1 S.2.1 dX2_bringUp_16 rfl (lv_at hl 1 rfl) ?_
  refine call_X2_pair S hK hN hP hD hS hA (u := v) (v := u)  hl.1 (Nat.le_of_ble_eq_true rfl) ⟨Nat.le_of_ble_eq_true rfl, Nat.le_of_ble_eq_true rfl⟩ dX2_bringUp_17 ⟨Nat.le_refl _, Nat.le_refl _⟩ (fun H locs hP hD hS => ?_)
  refine lv_iconst (v := (nI 1)) S.1 S.2.1 dX2_bringUp_20 (by decide) ?_
  refine cs_linkUp S hK hP hD hS (j := (v * 8 + u)) (by omega) (by decide) dX2_bringUp_21 (fun H locs hP hD hS => ?_)
  refine lv_aload_n S.1 S.2.1 dX2_bringUp_22 rfl (lv_at hl 0 rfl) ?_
  refine lv_iload_n S.1 S.2.1 dX2_bringUp_23 rfl (lv_at hl 1 rfl) ?_
  refine lv_iload_n S.1 S.2.1 dX2_bringUp_24 rfl (lv_at hl 2 rfl) ?_
  refine call_X2_carries S hK hN hP hD hS hA (u := u) (v := v) (by omega) (by omega) hl.1 (Nat.le_of_ble_eq_true rfl) ⟨Nat.le_of_ble_eq_true rfl, Nat.le_of_ble_eq_true rfl⟩ dX2_bringUp_25 ⟨Nat.le_refl _, Nat.le_refl _⟩ (fun H locs hP hD hS => ?_)
  refine kb_ne (tgt := 32) S dX2_bringUp_28 (by decide) (fun c1 => ?_) (fun c1 => ?_)
  · refine lv_iload_n S.1 S.2.1 dX2_bringUp_32 rfl (lv_at hl 1 rfl) ?_
    refine lv_iload_n S.1 S.2.1 dX2_bringUp_33 rfl (lv_at hl 2 rfl) ?_
    refine k_min S hl.1 (Nat.le_of_ble_eq_true rfl) (Nat.le_of_ble_eq_true rfl) (Nat.le_refl _) (Nat.le_refl _) (u := u) (v := v) (by omega) (by omega) dX2_bringUp_34 ?_
    refine lv_istore_n (lv' := [(3, .int (nI (min u v))), (0, .ref (a 0)), (1, .int (nI (u))), (2, .int (nI (v)))]) S.1 S.2.1 dX2_bringUp_37 rfl hl (by decide) rfl (fun ls hl => ?_)
    refine lv_iload_n S.1 S.2.1 dX2_bringUp_38 rfl (lv_at hl 2 rfl) ?_
    refine lv_iload_n S.1 S.2.1 dX2_bringUp_39 rfl (lv_at hl 3 rfl) ?_
    refine k_max S hl.1 (Nat.le_of_ble_eq_true rfl) (Nat.le_of_ble_eq_true rfl) (Nat.le_refl _) (Nat.le_refl _) (u := u) (v := v) (by omega) (by omega) dX2_bringUp_40 ?_
    refine lv_istore (lv' := [(4, .int (nI (max u v))), (3, .int (nI (min u v))), (0, .ref (a 0)), (1, .int (nI (u))), (2, .int (nI (v)))]) S.1 S.2.1 dX2_bringUp_43 hl (by decide) rfl (fun ls hl => ?_)
    refine lv_aload_n S.1 S.2.1 dX2_bringUp_45 rfl (lv_at hl 2 rfl) ?_
    refine lv_iload_n S.1 S.2.1 dX2_bringUp_46 rfl (lv_at hl 1 rfl) ?_
    refine call_X2_tell S hK hN hP hD hS hA (u := min u v) (by omega) hl.1 (Nat.le_of_ble_eq_true rfl) ⟨Nat.le_of_ble_eq_true rfl, Nat.le_of_ble_eq_true rfl⟩ dX2_bringUp_47 ⟨Nat.le_refl _, Nat.le_refl _⟩ (fun H locs hP hD hS => ?_)
    refine lv_aload_n S.1 S.2.1 dX2_bringUp_50 rfl (lv_at hl 2 rfl) ?_
    refine lv_iload S.1 S.2.1 dX2_bringUp_51 (lv_at hl 0 rfl) ?_
    refine call_X2_tell S hK hN hP hD hS hA (u := max u v) (by omega) hl.1 (Nat.le_of_ble_eq_true rfl) ⟨Nat.le_of_ble_eq_true rfl, Nat.le_of_ble_eq_true rfl⟩ dX2_bringUp_53 ⟨Nat.le_refl _, Nat.le_refl _⟩ (fun H locs hP hD hS => ?_)
    refine lv_aload_n S.1 S.2.1 dX2_bringUp_56 rfl (lv_at hl 2 rfl) ?_
    refine lv_iload_n S.1 S.2.1 dX2_bringUp_57 rfl (lv_at hl 1 rfl) ?_
    refine lv_iload S.1 S.2.1 dX2_bringUp_58 (lv_at hl 0 rfl) ?_
    refine call_X2_sendAllKnown S hK hN hP hD hS hA (f := min u v) (t := max u v) (by omega) (by omega) hl.1 (Nat.le_of_ble_eq_true rfl) ⟨Nat.le_of_ble_eq_true rfl, Nat.le_of_ble_eq_true rfl⟩ dX2_bringUp_60 ⟨Nat.le_refl _, Nat.le_refl _⟩ (fun H locs hP hD hS => ?_)
    refine lv_aload_n S.1 S.2.1 dX2_bringUp_63 rfl (lv_at hl 2 rfl) ?_
    refine lv_iload S.1 S.2.1 dX2_bringUp_64 (lv_at hl 0 rfl) ?_
    refine lv_iload_n S.1 S.2.1 dX2_bringUp_66 rfl (lv_at hl 1 rfl) ?_
    refine call_X2_sendAllKnown S hK hN hP hD hS hA (f := max u v) (t := min u v) (by omega) (by omega) hl.1 (Nat.le_of_ble_eq_true rfl) ⟨Nat.le_of_ble_eq_true rfl, Nat.le_of_ble_eq_true rfl⟩ dX2_bringUp_67 ⟨Nat.le_refl _, Nat.le_refl _⟩ (fun H locs hP hD hS => ?_)
    have e9 : cUp u v σ = cSendAll (max u v) (min u v) (cSendAll (min u v) (max u v) (cTell (max u v) (cTell (min u v) (sI 5 (v * 8 + u) (nI 1) (sI 5 (u * 8 + v) (nI 1) σ))))) := by first | (simp only [cUp, up1, c1, reduceIte, Bool.false_eq_true, eq_self_iff_true, if_true, if_false]; done) | with_reducible rfl
    rw [e9]
    exact kret_v S hr hlk hP hD hS dX2_bringUp_70
  · have e9 : cUp u v σ = sI 5 (v * 8 + u) (nI 1) (sI 5 (u * 8 + v) (nI 1) σ) := by first | (simp only [cUp, up1, c1, reduceIte, Bool.false_eq_true, eq_self_iff_true, if_true, if_false]; done) | with_reducible rfl
    rw [e9]
    exact kret_v S hr hlk hP hD hS dX2_bringUp_31
theorem call_X2_bringUp {p : Program} {l : Launch} {e : Env} {R : Room} {s : State} {m : MethodId} {args : Array Value} {below : List Frame} {meth : Method} {c : Code} {H : Heap} {locs : List Loc} {cells slots : Nat} {Q : State → Prop} {cc : ByteArray} {pc nL : Nat} {ls : Array Slot} {rest : List Value} {D : va_G} {A : Nat → Prop} {w0 : Cond} {X : va_W} {cy : Nat → ClassId} {a : Nat → Nat} {σ : CS} (S : CallFix p m c cc nL s args (w0 :: gw) RX2) (hK : va_K D vwCl (tyA cy) s) (hN : kN nestC s) (hP : va_P D vwCl (X ++ cB cy a σ) H) (hD : va_D A (X ++ cB cy a σ)) (hS : va_S A s.heap H locs) (hA : ∀ q, s.heap.size ≤ q → A q) {u : Nat} {v : Nat} (hu : u < 8) (hv : v < 8) (hsz : ls.size = nL) (hW : (rest.map fun v => v.category).sum ≤ 8) (hR : 4 + 1 ≤ R.frames ∧ 8 + (5 + 11) + 32 * 4 ≤ R.locals) (hdg : decode cc pc = .ok (.invokevirtual 80, 3)) (hfc : cells ≤ R.cells ∧ slots ≤ R.slots)
    (kk : ∀ (H1 : Heap) (locs1 : List Loc), va_P D vwCl (X ++ cB cy a (cUp u v σ)) H1 → va_D A (X ++ cB cy a (cUp u v σ)) → va_S A s.heap H1 locs1 → W p l e R s m args below meth c H1 locs1 cells slots Q (F0 m (pc + 3) ls (rest))) : W p l e R s m args below meth c H locs cells slots Q (F0 m pc ls (.int (nI (v)) :: .int (nI (u)) :: .ref (a 0) :: rest)) :=
  kgo_v (va_runV (As := [.int (nI (u)), .int (nI (v))]) (rest := rest) S (c_X2_bringUp l D cy a X σ u v hu hv H.size) (cwV 2 S.2.2.2.2 (gw_good_1 wm_305 (gw_good_1 wm_307 (gw_good_1 wm_12 (gw_good_1 wm_48 (gw_good_in wm_308))))) rfl rfl rfl (by decide +kernel) hR) ⟨kblind nestC_ok, crecv_net hK hP, kpre nestC_ok hN hK hP hD⟩ rfl rfl hsz rfl (lv_room hW) hdg hfc) hD hS hA kk
set_option maxHeartbeats 400000 in
set_option maxRecDepth 100000 in
theorem c_X2_tellNeighbours (l : Launch) (D : va_G) (cy : Nat → ClassId) (a : Nat → Nat) (X : va_W) (σ : CS) (u : Nat) (hu : u < 8) : MetV l yX2_tellNeighbours cX2_tellNeighbours 3 (kRm 4 0 0) D (tyA cy) nestC [.ref (a 0), .int (nI (u))] (X ++ cB cy a σ) (X ++ cB cy a (cTellN u σ)) 0 0 := by
  intro sz
  refine kmet (own := RX2) (by decide) rfl (Nat.le_of_ble_eq_true rfl) (fun p e s m args below meth c S hr hlk hK hN hP hD hsz hA hnm ls hl => ?_)
  have hS : va_S (va_A (X ++ cB cy a σ) sz) s.heap s.heap [] := va_S.rf
  have hl : lv_has ls 3 [(0, .ref (a 0)), (1, .int (nI (u)))] := hl
  refine lv_iconst (v := (nI 0)) S.1 S.2.1 dX2_tellNeighbours_0 (by decide) ?_
  refine lv_istore_n (lv' := [(2, .int (nI 0)), (0, .ref (a 0)), (1, .int (nI (u)))]) S.1 S.2.1 dX2_tellNeighbours_1 rfl hl (by decide) rfl (fun ls hl => ?_)
  have lp1 : ∀ (n1 i1 : Nat) (σ1 : CS), i1 + n1 = 8 → itr (fTN u) n1 i1 σ1 = itr (fTN u) 8 0 σ → ∀ (H : Heap) (locs : List Loc), va_P D vwCl (X ++ cB cy a σ1) H → va_D (va_A (X ++ cB cy a σ) sz) (X ++ cB cy a σ1) → va_S (va_A (X ++ cB cy a σ) sz) s.heap H locs → ∀ ls : Array Slot, lv_has ls 3 [(2, .int (nI (i1))), (0, .ref (a 0)), (1, .int (nI (u)))] → W p l e (kRm 4 0 0) s m args below meth c H locs 0 0 (MQ below (kQv D (X ++ cB cy a σ) (X ++ cB cy a (cTellN u σ)) sz) args s 0 0 (va_A (X ++ cB cy a σ) sz)) (F0 m 2 ls []) := by
    intro n1
    induction n1 with
    | zero =>
      intro i1 σ1 hi1 he1 H locs hP hD hS ls hl
      have hi1 : i1 = 8 := by omega
      have he1 : σ1 = itr (fTN u) 8 0 σ := he1
      refine lv_iload_n S.1 S.2.1 dX2_tellNeighbours_2 rfl (lv_at hl 0 rfl) ?_
      refine lv_bipush (v := (nI 8)) S.1 S.2.1 dX2_tellNeighbours_3 (by decide) ?_
      refine lv_icmp_ge (tgt := 41) S.1 S.2.1 dX2_tellNeighbours_5 (by decide) (fun _ => ?_) (fun c => absurd (nI_le (by omega) (by omega)) c)
      have e9 : cTellN u σ = σ1 := by first | (simp only [cTellN, ← he1, reduceIte, Bool.false_eq_true, eq_self_iff_true, if_true, if_false]; done) | with_reducible rfl
      rw [e9]
      exact kret_v S hr hlk hP hD hS dX2_tellNeighbours_41
    | succ n1 ih1 =>
      intro i1 σ1 hi1 he1 H locs hP hD hS ls hl
      have hlt1 : i1 < 8 := by omega
      refine lv_iload_n S.1 S.2.1 dX2_tellNeighbours_2 rfl (lv_at hl 0 rfl) ?_
      refine lv_bipush (v := (nI 8)) S.1 S.2.1 dX2_tellNeighbours_3 (by decide) ?_
      refine lv_icmp_ge (tgt := 41) S.1 S.2.1 dX2_tellNeighbours_5 (by decide) (fun c => absurd c (nI_ge (by omega) (by omega))) (fun _ => ?_)
      refine lv_aload_n S.1 S.2.1 dX2_tellNeighbours_8 rfl (lv_at hl 1 rfl) ?_
      refine cf_net_linkUp S hK hP dX2_tellNeighbours_9 ?_
      refine lv_iload_n S.1 S.2.1 dX2_tellNeighbours_12 rfl (lv_at hl 2 rfl) ?_
      refine lv_iload_n S.1 S.2.1 dX2_tellNeighbours_13 rfl (lv_at hl 0 rfl) ?_
      refine call_X2_pair S hK hN hP hD hS hA (u := u) (v := i1)  hl.1 (Nat.le_of_ble_eq_true rfl) ⟨Nat.le_of_ble_eq_true rfl, Nat.le_of_ble_eq_true rfl⟩ dX2_tellNeighbours_14 ⟨Nat.le_refl _, Nat.le_refl _⟩ (fun H locs hP hD hS => ?_)
      refine ca_linkUp S hK hP (j := (u * 8 + i1)) (by omega) dX2_tellNeighbours_17 ?_
      refine lv_if_eq (tgt := 35) S.1 S.2.1 dX2_tellNeighbours_18 (by decide) (fun c4 => ?_) (fun c4 => ?_)
      · refine lv_iinc (v := (nI (i1 + 1))) (lv' := [(2, .int (nI (i1 + 1))), (0, .ref (a 0)), (1, .int (nI (u)))]) S.1 S.2.1 dX2_tellNeighbours_35 hl (k := 0) rfl (nI_add _ 1) (by decide) rfl (fun ls hl => ?_)
        refine lv_goto (tgt := 2) S.1 S.2.1 dX2_tellNeighbours_38 (by decide) ?_
        exact ih1 (i1 + 1) σ1 (by omega) (itr_step he1 (by first | (simp only [fTN, eq_true c4, reduceIte, Bool.false_eq_true, eq_self_iff_true, if_true, if_false]; done) | with_reducible rfl)) _ _ hP hD hS _ (lv_sub hl [0, 1, 2] rfl)
      · refine lv_aload_n S.1 S.2.1 dX2_tellNeighbours_21 rfl (lv_at hl 1 rfl) ?_
        refine cf_net_there S hK hP dX2_tellNeighbours_22 ?_
        refine lv_iload_n S.1 S.2.1 dX2_tellNeighbours_25 rfl (lv_at hl 0 rfl) ?_
        refine ca_there S hK hP (j := i1) (by omega) dX2_tellNeighbours_26 ?_
        refine lv_if_eq (tgt := 35) S.1 S.2.1 dX2_tellNeighbours_27 (by decide) (fun c5 => ?_) (fun c5 => ?_)
        · refine lv_iinc (v := (nI (i1 + 1))) (lv' := [(2, .int (nI (i1 + 1))), (0, .ref (a 0)), (1, .int (nI (u)))]) S.1 S.2.1 dX2_tellNeighbours_35 hl (k := 0) rfl (nI_add _ 1) (by decide) rfl (fun ls hl => ?_)
          refine lv_goto (tgt := 2) S.1 S.2.1 dX2_tellNeighbours_38 (by decide) ?_
          exact ih1 (i1 + 1) σ1 (by omega) (itr_step he1 (by first | (simp only [fTN, c4, eq_true c5, reduceIte, Bool.false_eq_true, eq_self_iff_true, if_true, if_false]; done) | with_reducible rfl)) _ _ hP hD hS _ (lv_sub hl [0, 1, 2] rfl)
        · refine lv_aload_n S.1 S.2.1 dX2_tellNeighbours_30 rfl (lv_at hl 1 rfl) ?_
          refine lv_iload_n S.1 S.2.1 dX2_tellNeighbours_31 rfl (lv_at hl 0 rfl) ?_
          refine call_X2_tell S hK hN hP hD hS hA (u := i1) (by omega) hl.1 (Nat.le_of_ble_eq_true rfl) ⟨Nat.le_of_ble_eq_true rfl, Nat.le_of_ble_eq_true rfl⟩ dX2_tellNeighbours_32 ⟨Nat.le_refl _, Nat.le_refl _⟩ (fun H locs hP hD hS => ?_)
          refine lv_iinc (v := (nI (i1 + 1))) (lv' := [(2, .int (nI (i1 + 1))), (0, .ref (a 0)), (1, .int (nI (u)))]) S.1 S.2.1 dX2_tellNeighbours_35 hl (k := 0) rfl (nI_add _ 1) (by decide) rfl (fun ls hl => ?_)
          refine lv_goto (tgt := 2) S.1 S.2.1 dX2_tellNeighbours_38 (by decide) ?_
          exact ih1 (i1 + 1) (cTell i1 σ1) (by omega) (itr_step he1 (by first | (simp only [fTN, c4, c5, reduceIte, Bool.false_eq_true, eq_self_iff_true, if_true, if_false]; done) | with_reducible rfl)) _ _ hP hD hS _ (lv_sub hl [0, 1, 2] rfl)
  exact lp1 8 0 σ (by omega) rfl _ _ hP hD hS _ (lv_sub hl [0, 1, 2] rfl)
theorem call_X2_tellNeighbours {p : Program} {l : Launch} {e : Env} {R : Room} {s : State} {m : MethodId} {args : Array Value} {below : List Frame} {meth : Method} {c : Code} {H : Heap} {locs : List Loc} {cells slots : Nat} {Q : State → Prop} {cc : ByteArray} {pc nL : Nat} {ls : Array Slot} {rest : List Value} {D : va_G} {A : Nat → Prop} {w0 : Cond} {X : va_W} {cy : Nat → ClassId} {a : Nat → Nat} {σ : CS} (S : CallFix p m c cc nL s args (w0 :: gw) RX2) (hK : va_K D vwCl (tyA cy) s) (hN : kN nestC s) (hP : va_P D vwCl (X ++ cB cy a σ) H) (hD : va_D A (X ++ cB cy a σ)) (hS : va_S A s.heap H locs) (hA : ∀ q, s.heap.size ≤ q → A q) {u : Nat} (hu : u < 8) (hsz : ls.size = nL) (hW : (rest.map fun v => v.category).sum ≤ 8) (hR : 4 + 1 ≤ R.frames ∧ 8 + (3 + 11) + 32 * 4 ≤ R.locals) (hdg : decode cc pc = .ok (.invokevirtual 95, 3)) (hfc : cells ≤ R.cells ∧ slots ≤ R.slots)
    (kk : ∀ (H1 : Heap) (locs1 : List Loc), va_P D vwCl (X ++ cB cy a (cTellN u σ)) H1 → va_D A (X ++ cB cy a (cTellN u σ)) → va_S A s.heap H1 locs1 → W p l e R s m args below meth c H1 locs1 cells slots Q (F0 m (pc + 3) ls (rest))) : W p l e R s m args below meth c H locs cells slots Q (F0 m pc ls (.int (nI (u)) :: .ref (a 0) :: rest)) :=
  kgo_v (va_runV (As := [.int (nI (u))]) (rest := rest) S (c_X2_tellNeighbours l D cy a X σ u hu H.size) (cwV 1 S.2.2.2.2 (gw_good_1 wm_385 (gw_good_1 wm_387 (gw_good_1 wm_23 (gw_good_1 wm_48 (gw_good_in wm_388))))) rfl rfl rfl (by decide +kernel) hR) ⟨kblind nestC_ok, crecv_net hK hP, kpre nestC_ok hN hK hP hD⟩ rfl rfl hsz rfl (lv_room hW) hdg hfc) hD hS hA kk
set_option maxHeartbeats 400000 in
set_option maxRecDepth 100000 in
theorem c_X2_tellAgain (l : Launch) (D : va_G) (cy : Nat → ClassId) (a : Nat → Nat) (X : va_W) (σ : CS)   : MetV l yX2_tellAgain cX2_tellAgain 3 (kRm 4 0 0) D (tyA cy) nestC [.ref (a 0)] (X ++ cB cy a σ) (X ++ cB cy a (cTellA σ)) 0 0 := by
  intro sz
  refine kmet (own := RX2) (by decide) rfl (Nat.le_of_ble_eq_true rfl) (fun p e s m args below meth c S hr hlk hK hN hP hD hsz hA hnm ls hl => ?_)
  have hS : va_S (va_A (X ++ cB cy a σ) sz) s.heap s.heap [] := va_S.rf
  have hl : lv_has ls 3 [(0, .ref (a 0))] := hl
  refine lv_iconst (v := (nI 0)) S.1 S.2.1 dX2_tellAgain_0 (by decide) ?_
  refine lv_istore_n (lv' := [(1, .int (nI 0)), (0, .ref (a 0))]) S.1 S.2.1 dX2_tellAgain_1 rfl hl (by decide) rfl (fun ls hl => ?_)
  have lp1 : ∀ (n1 i1 : Nat) (σ1 : CS), i1 + n1 = 8 → itr fTA n1 i1 σ1 = itr fTA 8 0 σ → ∀ (H : Heap) (locs : List Loc), va_P D vwCl (X ++ cB cy a σ1) H → va_D (va_A (X ++ cB cy a σ) sz) (X ++ cB cy a σ1) → va_S (va_A (X ++ cB cy a σ) sz) s.heap H locs → ∀ ls : Array Slot, lv_has ls 3 [(1, .int (nI (i1))), (0, .ref (a 0))] → W p l e (kRm 4 0 0) s m args below meth c H locs 0 0 (MQ below (kQv D (X ++ cB cy a σ) (X ++ cB cy a (cTellA σ)) sz) args s 0 0 (va_A (X ++ cB cy a σ) sz)) (F0 m 2 ls []) := by
    intro n1
    induction n1 with
    | zero =>
      intro i1 σ1 hi1 he1 H locs hP hD hS ls hl
      have hi1 : i1 = 8 := by omega
      have he1 : σ1 = itr fTA 8 0 σ := he1
      refine lv_iload_n S.1 S.2.1 dX2_tellAgain_2 rfl (lv_at hl 0 rfl) ?_
      refine lv_bipush (v := (nI 8)) S.1 S.2.1 dX2_tellAgain_3 (by decide) ?_
      refine lv_icmp_ge (tgt := 56) S.1 S.2.1 dX2_tellAgain_5 (by decide) (fun _ => ?_) (fun c => absurd (nI_le (by omega) (by omega)) c)
      have e9 : cTellA σ = σ1 := by first | (simp only [cTellA, ← he1, reduceIte, Bool.false_eq_true, eq_self_iff_true, if_true, if_false]; done) | with_reducible rfl
      rw [e9]
      exact kret_v S hr hlk hP hD hS dX2_tellAgain_56
    | succ n1 ih1 =>
      intro i1 σ1 hi1 he1 H locs hP hD hS ls hl
      have hlt1 : i1 < 8 := by omega
      refine lv_iload_n S.1 S.2.1 dX2_tellAgain_2 rfl (lv_at hl 0 rfl) ?_
      refine lv_bipush (v := (nI 8)) S.1 S.2.1 dX2_tellAgain_3 (by decide) ?_
      refine lv_icmp_ge (tgt := 56) S.1 S.2.1 dX2_tellAgain_5 (by decide) (fun c => absurd c (nI_ge (by omega) (by omega))) (fun _ => ?_)
      refine lv_iload_n S.1 S.2.1 dX2_tellAgain_8 rfl (lv_at hl 0 rfl) ?_
      refine lv_iload_n S.1 S.2.1 dX2_tellAgain_9 rfl (lv_at hl 0 rfl) ?_
      refine call_X2_knownRow S hK hN hP hD hS hA (u := i1) (v := i1)  hl.1 (Nat.le_of_ble_eq_true rfl) ⟨Nat.le_of_ble_eq_true rfl, Nat.le_of_ble_eq_true rfl⟩ dX2_tellAgain_10 ⟨Nat.le_refl _, Nat.le_refl _⟩ (fun H locs hP hD hS => ?_)
      refine lv_istore_n (lv' := [(2, .int (nI (i1 * 8 + i1))), (1, .int (nI (i1))), (0, .ref (a 0))]) S.1 S.2.1 dX2_tellAgain_13 rfl hl (by decide) rfl (fun ls hl => ?_)
      refine lv_aload_n S.1 S.2.1 dX2_tellAgain_14 rfl (lv_at hl 2 rfl) ?_
      refine cf_net_known S hK hP dX2_tellAgain_15 ?_
      refine cn_known_number S hK hN hP dX2_tellAgain_18 ?_
      refine lv_iload_n S.1 S.2.1 dX2_tellAgain_21 rfl (lv_at hl 0 rfl) ?_
      refine ca_knNumber S hK hP (j := (i1 * 8 + i1)) (by omega) dX2_tellAgain_22 ?_
      refine lv_if_le (tgt := 50) S.1 S.2.1 dX2_tellAgain_23 (by decide) (fun c4 => ?_) (fun c4 => ?_)
      · refine lv_iinc (v := (nI (i1 + 1))) (lv' := [(1, .int (nI (i1 + 1))), (2, .int (nI (i1 * 8 + i1))), (0, .ref (a 0))]) S.1 S.2.1 dX2_tellAgain_50 hl (k := 1) rfl (nI_add _ 1) (by decide) rfl (fun ls hl => ?_)
        refine lv_goto (tgt := 2) S.1 S.2.1 dX2_tellAgain_53 (by decide) ?_
        exact ih1 (i1 + 1) σ1 (by omega) (itr_step he1 (by first | (simp only [fTA, c4, reduceIte, Bool.false_eq_true, eq_self_iff_true, if_true, if_false]; done) | with_reducible rfl)) _ _ hP hD hS _ (lv_sub hl [0, 2] rfl)
      · refine lv_aload_n S.1 S.2.1 dX2_tellAgain_26 rfl (lv_at hl 2 rfl) ?_
        refine cf_net_time S hK hP dX2_tellAgain_27 ?_
        refine lv_aload_n S.1 S.2.1 dX2_tellAgain_30 rfl (lv_at hl 2 rfl) ?_
        refine cf_net_known S hK hP dX2_tellAgain_31 ?_
        refine cn_known_born S hK hN hP dX2_tellAgain_34 ?_
        refine lv_iload_n S.1 S.2.1 dX2_tellAgain_37 rfl (lv_at hl 0 rfl) ?_
        refine ca_knBorn S hK hP (j := (i1 * 8 + i1)) (by omega) dX2_tellAgain_38 ?_
        refine lv_isub S.1 S.2.1 dX2_tellAgain_39 ?_
        refine lv_bipush (v := (nI 40)) S.1 S.2.1 dX2_tellAgain_40 (by decide) ?_
        refine lv_icmp_ne (tgt := 50) S.1 S.2.1 dX2_tellAgain_42 (by decide) (fun c5 => ?_) (fun c5 => ?_)
        · refine lv_iinc (v := (nI (i1 + 1))) (lv' := [(1, .int (nI (i1 + 1))), (2, .int (nI (i1 * 8 + i1))), (0, .ref (a 0))]) S.1 S.2.1 dX2_tellAgain_50 hl (k := 1) rfl (nI_add _ 1) (by decide) rfl (fun ls hl => ?_)
          refine lv_goto (tgt := 2) S.1 S.2.1 dX2_tellAgain_53 (by decide) ?_
          exact ih1 (i1 + 1) σ1 (by omega) (itr_step he1 (by first | (simp only [fTA, c4, c5, reduceIte, Bool.false_eq_true, eq_self_iff_true, if_true, if_false]; done) | with_reducible rfl)) _ _ hP hD hS _ (lv_sub hl [0, 2] rfl)
        · refine lv_aload_n S.1 S.2.1 dX2_tellAgain_45 rfl (lv_at hl 2 rfl) ?_
          refine lv_iload_n S.1 S.2.1 dX2_tellAgain_46 rfl (lv_at hl 1 rfl) ?_
          refine call_X2_tell S hK hN hP hD hS hA (u := i1) (by omega) hl.1 (Nat.le_of_ble_eq_true rfl) ⟨Nat.le_of_ble_eq_true rfl, Nat.le_of_ble_eq_true rfl⟩ dX2_tellAgain_47 ⟨Nat.le_refl _, Nat.le_refl _⟩ (fun H locs hP hD hS => ?_)
          refine lv_iinc (v := (nI (i1 + 1))) (lv' := [(1, .int (nI (i1 + 1))), (2, .int (nI (i1 * 8 + i1))), (0, .ref (a 0))]) S.1 S.2.1 dX2_tellAgain_50 hl (k := 1) rfl (nI_add _ 1) (by decide) rfl (fun ls hl => ?_)
          refine lv_goto (tgt := 2) S.1 S.2.1 dX2_tellAgain_53 (by decide) ?_
          exact ih1 (i1 + 1) (cTell i1 σ1) (by omega) (itr_step he1 (by first | (simp only [fTA, c4, eq_true c5, reduceIte, Bool.false_eq_true, eq_self_iff_true, if_true, if_false]; done) | with_reducible rfl)) _ _ hP hD hS _ (lv_sub hl [0, 2] rfl)
  exact lp1 8 0 σ (by omega) rfl _ _ hP hD hS _ (lv_sub hl [0, 1] rfl)
theorem call_X2_tellAgain {p : Program} {l : Launch} {e : Env} {R : Room} {s : State} {m : MethodId} {args : Array Value} {below : List Frame} {meth : Method} {c : Code} {H : Heap} {locs : List Loc} {cells slots : Nat} {Q : State → Prop} {cc : ByteArray} {pc nL : Nat} {ls : Array Slot} {rest : List Value} {D : va_G} {A : Nat → Prop} {w0 : Cond} {X : va_W} {cy : Nat → ClassId} {a : Nat → Nat} {σ : CS} (S : CallFix p m c cc nL s args (w0 :: gw) RX2) (hK : va_K D vwCl (tyA cy) s) (hN : kN nestC s) (hP : va_P D vwCl (X ++ cB cy a σ) H) (hD : va_D A (X ++ cB cy a σ)) (hS : va_S A s.heap H locs) (hA : ∀ q, s.heap.size ≤ q → A q)   (hsz : ls.size = nL) (hW : (rest.map fun v => v.category).sum ≤ 8) (hR : 4 + 1 ≤ R.frames ∧ 8 + (3 + 11) + 32 * 4 ≤ R.locals) (hdg : decode cc pc = .ok (.invokevirtual 124, 3)) (hfc : cells ≤ R.cells ∧ slots ≤ R.slots)
    (kk : ∀ (H1 : Heap) (locs1 : List Loc), va_P D vwCl (X ++ cB cy a (cTellA σ)) H1 → va_D A (X ++ cB cy a (cTellA σ)) → va_S A s.heap H1 locs1 → W p l e R s m args below meth c H1 locs1 cells slots Q (F0 m (pc + 3) ls (rest))) : W p l e R s m args below meth c H locs cells slots Q (F0 m pc ls (.ref (a 0) :: rest)) :=
  kgo_v (va_runV (As := []) (rest := rest) S (c_X2_tellAgain l D cy a X σ   H.size) (cwV 0 S.2.2.2.2 (gw_good_1 wm_409 (gw_good_1 wm_411 (gw_good_1 wm_25 (gw_good_1 wm_48 (gw_good_in wm_412))))) rfl rfl rfl (by decide +kernel) hR) ⟨kblind nestC_ok, crecv_net hK hP, kpre nestC_ok hN hK hP hD⟩ rfl rfl hsz rfl (lv_room hW) hdg hfc) hD hS hA kk
set_option maxHeartbeats 400000 in
set_option maxRecDepth 100000 in
theorem c_X2_receive (l : Launch) (D : va_G) (cy : Nat → ClassId) (a : Nat → Nat) (X : va_W) (σ : CS) (row : Nat) (hrow : row < 512) : MetV l yX2_receive cX2_receive 7 (kRm 4 0 0) D (tyA cy) nestC [.ref (a 0), .int (nI (row))] (X ++ cB cy a σ) (X ++ cB cy a (cRecv row σ)) 0 0 := by
  intro sz
  refine kmet (own := RX2) (by decide) rfl (Nat.le_of_ble_eq_true rfl) (fun p e s m args below meth c S hr hlk hK hN hP hD hsz hA hnm ls hl => ?_)
  have hS : va_S (va_A (X ++ cB cy a σ) sz) s.heap s.heap [] := va_S.rf
  have hl : lv_has ls 7 [(0, .ref (a 0)), (1, .int (nI (row)))] := hl
  refine lv_iload_n S.1 S.2.1 dX2_receive_0 rfl (lv_at hl 1 rfl) ?_
  refine lv_bipush (v := (nI 64)) S.1 S.2.1 dX2_receive_1 (by decide) ?_
  refine lv_idiv S.1 S.2.1 dX2_receive_3 (by decide) ?_
  refine k_top (pk_div (by omega) (by decide) (by decide)) ?_
  refine lv_istore_n (lv' := [(2, .int (nI (row / 64))), (0, .ref (a 0)), (1, .int (nI (row)))]) S.1 S.2.1 dX2_receive_4 rfl hl (by decide) rfl (fun ls hl => ?_)
  refine lv_iload_n S.1 S.2.1 dX2_receive_5 rfl (lv_at hl 2 rfl) ?_
  refine lv_bipush (v := (nI 8)) S.1 S.2.1 dX2_receive_6 (by decide) ?_
  refine lv_idiv S.1 S.2.1 dX2_receive_8 (by decide) ?_
  refine k_top (pk_div (by omega) (by decide) (by decide)) ?_
  refine lv_bipush (v := (nI 8)) S.1 S.2.1 dX2_receive_9 (by decide) ?_
  refine lv_irem S.1 S.2.1 dX2_receive_11 (by decide) ?_
  refine k_top (pk_rem (by omega) (by decide) (by decide)) ?_
  refine lv_istore_n (lv' := [(3, .int (nI ((row / 8) % 8))), (2, .int (nI (row / 64))), (0, .ref (a 0)), (1, .int (nI (row)))]) S.1 S.2.1 dX2_receive_12 rfl hl (by decide) rfl (fun ls hl => ?_)
  refine lv_iload_n S.1 S.2.1 dX2_receive_13 rfl (lv_at hl 3 rfl) ?_
  refine lv_bipush (v := (nI 8)) S.1 S.2.1 dX2_receive_14 (by decide) ?_
  refine lv_irem S.1 S.2.1 dX2_receive_16 (by decide) ?_
  refine k_top (pk_rem (by omega) (by decide) (by decide)) ?_
  refine lv_istore (lv' := [(4, .int (nI (row % 8))), (3, .int (nI ((row / 8) % 8))), (2, .int (nI (row / 64))), (0, .ref (a 0)), (1, .int (nI (row)))]) S.1 S.2.1 dX2_receive_17 hl (by decide) rfl (fun ls hl => ?_)
  refine lv_aload_n S.1 S.2.1 dX2_receive_19 rfl (lv_at hl 3 rfl) ?_
  refine cf_net_inFlight S hK hP dX2_receive_20 ?_
  refine cn_inFlight_number S hK hN hP dX2_receive_23 ?_
  refine lv_iload_n S.1 S.2.1 dX2_receive_26 rfl (lv_at hl 4 rfl) ?_
  refine ca_inNumber S hK hP (j := row) (by omega) dX2_receive_27 ?_
  refine lv_istore (lv' := [(5, .int (σ.1 8 row)), (4, .int (nI (row % 8))), (3, .int (nI ((row / 8) % 8))), (2, .int (nI (row / 64))), (0, .ref (a 0)), (1, .int (nI (row)))]) S.1 S.2.1 dX2_receive_28 hl (by decide) rfl (fun ls hl => ?_)
  refine lv_aload_n S.1 S.2.1 dX2_receive_30 rfl (lv_at hl 4 rfl) ?_
  refine cf_net_known S hK hP dX2_receive_31 ?_
  refine cn_known_number S hK hN hP dX2_receive_34 ?_
  refine lv_iload_n S.1 S.2.1 dX2_receive_37 rfl (lv_at hl 2 rfl) ?_
  refine lv_iload S.1 S.2.1 dX2_receive_38 (lv_at hl 1 rfl) ?_
  refine call_X2_knownRow S hK hN hP hD hS hA (u := (row / 8) % 8) (v := row % 8)  hl.1 (Nat.le_of_ble_eq_true rfl) ⟨Nat.le_of_ble_eq_true rfl, Nat.le_of_ble_eq_true rfl⟩ dX2_receive_40 ⟨Nat.le_refl _, Nat.le_refl _⟩ (fun H locs hP hD hS => ?_)
  refine ca_knNumber S hK hP (j := (((row / 8) % 8) * 8 + (row % 8))) (by omega) dX2_receive_43 ?_
  refine lv_istore (lv' := [(6, .int (σ.1 6 (((row / 8) % 8) * 8 + (row % 8)))), (5, .int (σ.1 8 row)), (4, .int (nI (row % 8))), (3, .int (nI ((row / 8) % 8))), (2, .int (nI (row / 64))), (0, .ref (a 0)), (1, .int (nI (row)))]) S.1 S.2.1 dX2_receive_44 hl (by decide) rfl (fun ls hl => ?_)
  refine lv_iload S.1 S.2.1 dX2_receive_46 (lv_at hl 2 rfl) ?_
  refine lv_iload_n S.1 S.2.1 dX2_receive_48 rfl (lv_at hl 3 rfl) ?_
  refine lv_icmp_ne (tgt := 79) S.1 S.2.1 dX2_receive_49 (by decide) (fun c1 => ?_) (fun c1 => ?_)
  · have c1 : ¬ (row % 8) = ((row / 8) % 8) := fun h => c1 ((nI_eq (a := (row % 8)) (b := ((row / 8) % 8)) (by omega) (by omega)).mpr h)
    refine lv_iload S.1 S.2.1 dX2_receive_79 (lv_at hl 1 rfl) ?_
    refine lv_iload S.1 S.2.1 dX2_receive_81 (lv_at hl 0 rfl) ?_
    refine lv_icmp_le (tgt := 130) S.1 S.2.1 dX2_receive_83 (by decide) (fun c2 => ?_) (fun c2 => ?_)
    · refine lv_iload S.1 S.2.1 dX2_receive_130 (lv_at hl 1 rfl) ?_
      refine lv_iload S.1 S.2.1 dX2_receive_132 (lv_at hl 0 rfl) ?_
      refine lv_icmp_ge (tgt := 145) S.1 S.2.1 dX2_receive_134 (by decide) (fun c3 => ?_) (fun c3 => ?_)
      · refine lv_aload_n S.1 S.2.1 dX2_receive_145 rfl (lv_at hl 5 rfl) ?_
        refine cf_net_inFlight S hK hP dX2_receive_146 ?_
        refine lv_iload_n S.1 S.2.1 dX2_receive_149 rfl (lv_at hl 6 rfl) ?_
        refine call_X1_clear_inFlight_X2 S hK hN hP hD hS hA (row := row) (by omega) hl.1 (Nat.le_of_ble_eq_true rfl) ⟨Nat.le_of_ble_eq_true rfl, Nat.le_of_ble_eq_true rfl⟩ dX2_receive_150 ⟨Nat.le_refl _, Nat.le_refl _⟩ (fun H locs hP hD hS => ?_)
        have e9 : cRecv row σ = pClear 8 1 4 row σ := by first | (simp only [cRecv, cRecvB, c1, c2, c3, reduceIte, Bool.false_eq_true, eq_self_iff_true, if_true, if_false]; done) | with_reducible rfl
        rw [e9]
        exact kret_v S hr hlk hP hD hS dX2_receive_153
      · refine lv_aload_n S.1 S.2.1 dX2_receive_137 rfl (lv_at hl 5 rfl) ?_
        refine lv_iload_n S.1 S.2.1 dX2_receive_138 rfl (lv_at hl 3 rfl) ?_
        refine lv_iload_n S.1 S.2.1 dX2_receive_139 rfl (lv_at hl 4 rfl) ?_
        refine lv_iload S.1 S.2.1 dX2_receive_140 (lv_at hl 2 rfl) ?_
        refine call_X2_sendKnown S hK hN hP hD hS hA (f := (row / 8) % 8) (t := row / 64) (o := row % 8) (by omega) (by omega) (by omega) hl.1 (Nat.le_of_ble_eq_true rfl) ⟨Nat.le_of_ble_eq_true rfl, Nat.le_of_ble_eq_true rfl⟩ dX2_receive_142 ⟨Nat.le_refl _, Nat.le_refl _⟩ (fun H locs hP hD hS => ?_)
        refine lv_aload_n S.1 S.2.1 dX2_receive_145 rfl (lv_at hl 5 rfl) ?_
        refine cf_net_inFlight S hK hP dX2_receive_146 ?_
        refine lv_iload_n S.1 S.2.1 dX2_receive_149 rfl (lv_at hl 6 rfl) ?_
        refine call_X1_clear_inFlight_X2 S hK hN hP hD hS hA (row := row) (by omega) hl.1 (Nat.le_of_ble_eq_true rfl) ⟨Nat.le_of_ble_eq_true rfl, Nat.le_of_ble_eq_true rfl⟩ dX2_receive_150 ⟨Nat.le_refl _, Nat.le_refl _⟩ (fun H locs hP hD hS => ?_)
        have e9 : cRecv row σ = pClear 8 1 4 row (cSendKnown ((row / 8) % 8) (row / 64) (row % 8) σ) := by first | (simp only [cRecv, cRecvB, c1, c2, c3, reduceIte, Bool.false_eq_true, eq_self_iff_true, if_true, if_false]; done) | with_reducible rfl
        rw [e9]
        exact kret_v S hr hlk hP hD hS dX2_receive_153
    · refine lv_aload_n S.1 S.2.1 dX2_receive_86 rfl (lv_at hl 5 rfl) ?_
      refine cf_net_known S hK hP dX2_receive_87 ?_
      refine lv_iload_n S.1 S.2.1 dX2_receive_90 rfl (lv_at hl 3 rfl) ?_
      refine lv_iload S.1 S.2.1 dX2_receive_91 (lv_at hl 2 rfl) ?_
      refine call_X2_knownRow S hK hN hP hD hS hA (u := (row / 8) % 8) (v := row % 8)  hl.1 (Nat.le_of_ble_eq_true rfl) ⟨Nat.le_of_ble_eq_true rfl, Nat.le_of_ble_eq_true rfl⟩ dX2_receive_93 ⟨Nat.le_refl _, Nat.le_refl _⟩ (fun H locs hP hD hS => ?_)
      refine lv_iload S.1 S.2.1 dX2_receive_96 (lv_at hl 1 rfl) ?_
      refine lv_aload_n S.1 S.2.1 dX2_receive_98 rfl (lv_at hl 5 rfl) ?_
      refine cf_net_inFlight S hK hP dX2_receive_99 ?_
      refine cn_inFlight_born S hK hN hP dX2_receive_102 ?_
      refine lv_iload_n S.1 S.2.1 dX2_receive_105 rfl (lv_at hl 6 rfl) ?_
      refine ca_inBorn S hK hP (j := row) (by omega) dX2_receive_106 ?_
      refine lv_aload_n S.1 S.2.1 dX2_receive_107 rfl (lv_at hl 5 rfl) ?_
      refine cf_net_inFlight S hK hP dX2_receive_108 ?_
      refine cn_inFlight_costs S hK hN hP dX2_receive_111 ?_
      refine lv_iload_n S.1 S.2.1 dX2_receive_114 rfl (lv_at hl 6 rfl) ?_
      refine ca_inCosts S hK hP (j := row) (by omega) dX2_receive_115 ?_
      refine call_X1_write_known S hK hN hP hD hS hA (row := ((row / 8) % 8) * 8 + (row % 8)) (x := σ.1 8 row) (y := σ.1 9 row) (z := σ.2 1 row) (by omega) hl.1 (Nat.le_of_ble_eq_true rfl) ⟨Nat.le_of_ble_eq_true rfl, Nat.le_of_ble_eq_true rfl⟩ dX2_receive_116 ⟨Nat.le_refl _, Nat.le_refl _⟩ (fun H locs hP hD hS => ?_)
      refine lv_aload_n S.1 S.2.1 dX2_receive_119 rfl (lv_at hl 5 rfl) ?_
      refine lv_iload_n S.1 S.2.1 dX2_receive_120 rfl (lv_at hl 3 rfl) ?_
      refine lv_iload S.1 S.2.1 dX2_receive_121 (lv_at hl 2 rfl) ?_
      refine lv_iload_n S.1 S.2.1 dX2_receive_123 rfl (lv_at hl 4 rfl) ?_
      refine call_X2_spread S hK hN hP hD hS hA (u := (row / 8) % 8) (o := row % 8) (x := nI (row / 64)) (by omega) (by omega) hl.1 (Nat.le_of_ble_eq_true rfl) ⟨Nat.le_of_ble_eq_true rfl, Nat.le_of_ble_eq_true rfl⟩ dX2_receive_124 ⟨Nat.le_refl _, Nat.le_refl _⟩ (fun H locs hP hD hS => ?_)
      refine lv_goto (tgt := 145) S.1 S.2.1 dX2_receive_127 (by decide) ?_
      refine lv_aload_n S.1 S.2.1 dX2_receive_145 rfl (lv_at hl 5 rfl) ?_
      refine cf_net_inFlight S hK hP dX2_receive_146 ?_
      refine lv_iload_n S.1 S.2.1 dX2_receive_149 rfl (lv_at hl 6 rfl) ?_
      refine call_X1_clear_inFlight_X2 S hK hN hP hD hS hA (row := row) (by omega) hl.1 (Nat.le_of_ble_eq_true rfl) ⟨Nat.le_of_ble_eq_true rfl, Nat.le_of_ble_eq_true rfl⟩ dX2_receive_150 ⟨Nat.le_refl _, Nat.le_refl _⟩ (fun H locs hP hD hS => ?_)
      have e9 : cRecv row σ = pClear 8 1 4 row (cSpread ((row / 8) % 8) (row % 8) (nI (row / 64)) (pWrite 6 7 0 3 (((row / 8) % 8) * 8 + (row % 8)) (σ.1 8 row) (σ.1 9 row) (σ.2 1 row) σ)) := by first | (simp only [cRecv, cRecvB, c1, c2, reduceIte, Bool.false_eq_true, eq_self_iff_true, if_true, if_false]; done) | with_reducible rfl
      rw [e9]
      exact kret_v S hr hlk hP hD hS dX2_receive_153
  · have c1 : (row % 8) = ((row / 8) % 8) := (nI_eq (a := (row % 8)) (b := ((row / 8) % 8)) (by omega) (by omega)).mp c1
    refine lv_iload S.1 S.2.1 dX2_receive_52 (lv_at hl 1 rfl) ?_
    refine lv_aload_n S.1 S.2.1 dX2_receive_54 rfl (lv_at hl 5 rfl) ?_
    refine cf_net_latestNumber S hK hP dX2_receive_55 ?_
    refine lv_iload_n S.1 S.2.1 dX2_receive_58 rfl (lv_at hl 3 rfl) ?_
    refine ca_latest S hK hP (j := ((row / 8) % 8)) (by omega) dX2_receive_59 ?_
    refine lv_icmp_le (tgt := 145) S.1 S.2.1 dX2_receive_60 (by decide) (fun c4 => ?_) (fun c4 => ?_)
    · refine lv_aload_n S.1 S.2.1 dX2_receive_145 rfl (lv_at hl 5 rfl) ?_
      refine cf_net_inFlight S hK hP dX2_receive_146 ?_
      refine lv_iload_n S.1 S.2.1 dX2_receive_149 rfl (lv_at hl 6 rfl) ?_
      refine call_X1_clear_inFlight_X2 S hK hN hP hD hS hA (row := row) (by omega) hl.1 (Nat.le_of_ble_eq_true rfl) ⟨Nat.le_of_ble_eq_true rfl, Nat.le_of_ble_eq_true rfl⟩ dX2_receive_150 ⟨Nat.le_refl _, Nat.le_refl _⟩ (fun H locs hP hD hS => ?_)
      have e9 : cRecv row σ = pClear 8 1 4 row σ := by first | (simp only [cRecv, cRecvB, eq_true c1, c4, reduceIte, Bool.false_eq_true, eq_self_iff_true, if_true, if_false]; done) | with_reducible rfl
      rw [e9]
      exact kret_v S hr hlk hP hD hS dX2_receive_153
    · refine lv_aload_n S.1 S.2.1 dX2_receive_63 rfl (lv_at hl 5 rfl) ?_
      refine cf_net_latestNumber S hK hP dX2_receive_64 ?_
      refine lv_iload_n S.1 S.2.1 dX2_receive_67 rfl (lv_at hl 3 rfl) ?_
      refine lv_iload S.1 S.2.1 dX2_receive_68 (lv_at hl 1 rfl) ?_
      refine cs_latest S hK hP hD hS (j := ((row / 8) % 8)) (by omega) dX2_receive_70 (fun H locs hP hD hS => ?_)
      refine lv_aload_n S.1 S.2.1 dX2_receive_71 rfl (lv_at hl 5 rfl) ?_
      refine lv_iload_n S.1 S.2.1 dX2_receive_72 rfl (lv_at hl 3 rfl) ?_
      refine call_X2_tell S hK hN hP hD hS hA (u := (row / 8) % 8) (by omega) hl.1 (Nat.le_of_ble_eq_true rfl) ⟨Nat.le_of_ble_eq_true rfl, Nat.le_of_ble_eq_true rfl⟩ dX2_receive_73 ⟨Nat.le_refl _, Nat.le_refl _⟩ (fun H locs hP hD hS => ?_)
      refine lv_goto (tgt := 145) S.1 S.2.1 dX2_receive_76 (by decide) ?_
      refine lv_aload_n S.1 S.2.1 dX2_receive_145 rfl (lv_at hl 5 rfl) ?_
      refine cf_net_inFlight S hK hP dX2_receive_146 ?_
      refine lv_iload_n S.1 S.2.1 dX2_receive_149 rfl (lv_at hl 6 rfl) ?_
      refine call_X1_clear_inFlight_X2 S hK hN hP hD hS hA (row := row) (by omega) hl.1 (Nat.le_of_ble_eq_true rfl) ⟨Nat.le_of_ble_eq_true rfl, Nat.le_of_ble_eq_true rfl⟩ dX2_receive_150 ⟨Nat.le_refl _, Nat.le_refl _⟩ (fun H locs hP hD hS => ?_)
      have e9 : cRecv row σ = pClear 8 1 4 row (cTell ((row / 8) % 8) (sI 2 ((row / 8) % 8) (σ.1 8 row) σ)) := by first | (simp only [cRecv, cRecvB, eq_true c1, c4, reduceIte, Bool.false_eq_true, eq_self_iff_true, if_true, if_false]; done) | with_reducible rfl
      rw [e9]
      exact kret_v S hr hlk hP hD hS dX2_receive_153
theorem call_X2_receive {p : Program} {l : Launch} {e : Env} {R : Room} {s : State} {m : MethodId} {args : Array Value} {below : List Frame} {meth : Method} {c : Code} {H : Heap} {locs : List Loc} {cells slots : Nat} {Q : State → Prop} {cc : ByteArray} {pc nL : Nat} {ls : Array Slot} {rest : List Value} {D : va_G} {A : Nat → Prop} {w0 : Cond} {X : va_W} {cy : Nat → ClassId} {a : Nat → Nat} {σ : CS} (S : CallFix p m c cc nL s args (w0 :: gw) RX2) (hK : va_K D vwCl (tyA cy) s) (hN : kN nestC s) (hP : va_P D vwCl (X ++ cB cy a σ) H) (hD : va_D A (X ++ cB cy a σ)) (hS : va_S A s.heap H locs) (hA : ∀ q, s.heap.size ≤ q → A q) {row : Nat} (hrow : row < 512) (hsz : ls.size = nL) (hW : (rest.map fun v => v.category).sum ≤ 8) (hR : 4 + 1 ≤ R.frames ∧ 8 + (7 + 11) + 32 * 4 ≤ R.locals) (hdg : decode cc pc = .ok (.invokevirtual 221, 3)) (hfc : cells ≤ R.cells ∧ slots ≤ R.slots)
    (kk : ∀ (H1 : Heap) (locs1 : List Loc), va_P D vwCl (X ++ cB cy a (cRecv row σ)) H1 → va_D A (X ++ cB cy a (cRecv row σ)) → va_S A s.heap H1 locs1 → W p l e R s m args below meth c H1 locs1 cells slots Q (F0 m (pc + 3) ls (rest))) : W p l e R s m args below meth c H locs cells slots Q (F0 m pc ls (.int (nI (row)) :: .ref (a 0) :: rest)) :=
  kgo_v (va_runV (As := [.int (nI (row))]) (rest := rest) S (c_X2_receive l D cy a X σ row hrow H.size) (cwV 1 S.2.2.2.2 (gw_good_1 wm_417 (gw_good_1 wm_419 (gw_good_1 wm_27 (gw_good_1 wm_48 (gw_good_in wm_420))))) rfl rfl rfl (by decide +kernel) hR) ⟨kblind nestC_ok, crecv_net hK hP, kpre nestC_ok hN hK hP hD⟩ rfl rfl hsz rfl (lv_room hW) hdg hfc) hD hS hA kk
set_option maxHeartbeats 400000 in
set_option maxRecDepth 100000 in
theorem c_X2_receiveArrivedNews (l : Launch) (D : va_G) (cy : Nat → ClassId) (a : Nat → Nat) (X : va_W) (σ : CS)   : MetV l yX2_receiveArrivedNews cX2_receiveArrivedNews 2 (kRm 5 0 0) D (tyA cy) nestC [.ref (a 0)] (X ++ cB cy a σ) (X ++ cB cy a (cArr σ)) 0 0 := by
  intro sz
  refine kmet (own := RX2) (by decide) rfl (Nat.le_of_ble_eq_true rfl) (fun p e s m args below meth c S hr hlk hK hN hP hD hsz hA hnm ls hl => ?_)
  have hS : va_S (va_A (X ++ cB cy a σ) sz) s.heap s.heap [] := va_S.rf
  have hl : lv_has ls 2 [(0, .ref (a 0))] := hl
  refine lv_aload_n S.1 S.2.1 dX2_receiveArrivedNews_0 rfl (lv_at hl 0 rfl) ?_
  refine cf_net_inFlight S hK hP dX2_receiveArrivedNews_1 ?_
  refine cn_inFlight_count S hK hN hP dX2_receiveArrivedNews_4 ?_
  refine lv_if_ne (tgt := 11) S.1 S.2.1 dX2_receiveArrivedNews_7 (by decide) (fun c1 => ?_) (fun c1 => ?_)
  · refine lv_iconst (v := (nI 0)) S.1 S.2.1 dX2_receiveArrivedNews_11 (by decide) ?_
    refine lv_istore_n (lv' := [(1, .int (nI 0)), (0, .ref (a 0))]) S.1 S.2.1 dX2_receiveArrivedNews_12 rfl hl (by decide) rfl (fun ls hl => ?_)
    have lp2 : ∀ (n2 i2 : Nat) (σ2 : CS), i2 + n2 = 512 → itr fArr n2 i2 σ2 = itr fArr 512 0 σ → ∀ (H : Heap) (locs : List Loc), va_P D vwCl (X ++ cB cy a σ2) H → va_D (va_A (X ++ cB cy a σ) sz) (X ++ cB cy a σ2) → va_S (va_A (X ++ cB cy a σ) sz) s.heap H locs → ∀ ls : Array Slot, lv_has ls 2 [(1, .int (nI (i2))), (0, .ref (a 0))] → W p l e (kRm 5 0 0) s m args below meth c H locs 0 0 (MQ below (kQv D (X ++ cB cy a σ) (X ++ cB cy a (cArr σ)) sz) args s 0 0 (va_A (X ++ cB cy a σ) sz)) (F0 m 13 ls []) := by
      intro n2
      induction n2 with
      | zero =>
        intro i2 σ2 hi2 he2 H locs hP hD hS ls hl
        have hi2 : i2 = 512 := by omega
        have he2 : σ2 = itr fArr 512 0 σ := he2
        refine lv_iload_n S.1 S.2.1 dX2_receiveArrivedNews_13 rfl (lv_at hl 0 rfl) ?_
        refine lv_sipush (v := (nI 512)) S.1 S.2.1 dX2_receiveArrivedNews_14 (by decide) ?_
        refine lv_icmp_ge (tgt := 56) S.1 S.2.1 dX2_receiveArrivedNews_17 (by decide) (fun _ => ?_) (fun c => absurd (nI_le (by omega) (by omega)) c)
        have e9 : cArr σ = σ2 := by first | (simp only [cArr, c1, ← he2, reduceIte, Bool.false_eq_true, eq_self_iff_true, if_true, if_false]; done) | with_reducible rfl
        rw [e9]
        exact kret_v S hr hlk hP hD hS dX2_receiveArrivedNews_56
      | succ n2 ih2 =>
        intro i2 σ2 hi2 he2 H locs hP hD hS ls hl
        have hlt2 : i2 < 512 := by omega
        refine lv_iload_n S.1 S.2.1 dX2_receiveArrivedNews_13 rfl (lv_at hl 0 rfl) ?_
        refine lv_sipush (v := (nI 512)) S.1 S.2.1 dX2_receiveArrivedNews_14 (by decide) ?_
        refine lv_icmp_ge (tgt := 56) S.1 S.2.1 dX2_receiveArrivedNews_17 (by decide) (fun c => absurd c (nI_ge (by omega) (by omega))) (fun _ => ?_)
        refine lv_aload_n S.1 S.2.1 dX2_receiveArrivedNews_20 rfl (lv_at hl 1 rfl) ?_
        refine cf_net_inFlight S hK hP dX2_receiveArrivedNews_21 ?_
        refine cn_inFlight_number S hK hN hP dX2_receiveArrivedNews_24 ?_
        refine lv_iload_n S.1 S.2.1 dX2_receiveArrivedNews_27 rfl (lv_at hl 0 rfl) ?_
        refine ca_inNumber S hK hP (j := i2) (by omega) dX2_receiveArrivedNews_28 ?_
        refine lv_if_le (tgt := 50) S.1 S.2.1 dX2_receiveArrivedNews_29 (by decide) (fun c5 => ?_) (fun c5 => ?_)
        · refine lv_iinc (v := (nI (i2 + 1))) (lv' := [(1, .int (nI (i2 + 1))), (0, .ref (a 0))]) S.1 S.2.1 dX2_receiveArrivedNews_50 hl (k := 0) rfl (nI_add _ 1) (by decide) rfl (fun ls hl => ?_)
          refine lv_goto (tgt := 13) S.1 S.2.1 dX2_receiveArrivedNews_53 (by decide) ?_
          exact ih2 (i2 + 1) σ2 (by omega) (itr_step he2 (by first | (simp only [fArr, c1, c5, reduceIte, Bool.false_eq_true, eq_self_iff_true, if_true, if_false]; done) | with_reducible rfl)) _ _ hP hD hS _ (lv_sub hl [0, 1] rfl)
        · refine lv_aload_n S.1 S.2.1 dX2_receiveArrivedNews_32 rfl (lv_at hl 1 rfl) ?_
          refine cf_net_newsArrival S hK hP dX2_receiveArrivedNews_33 ?_
          refine lv_iload_n S.1 S.2.1 dX2_receiveArrivedNews_36 rfl (lv_at hl 0 rfl) ?_
          refine ca_newsArrival S hK hP (j := i2) (by omega) dX2_receiveArrivedNews_37 ?_
          refine lv_aload_n S.1 S.2.1 dX2_receiveArrivedNews_38 rfl (lv_at hl 1 rfl) ?_
          refine cf_net_time S hK hP dX2_receiveArrivedNews_39 ?_
          refine lv_icmp_ne (tgt := 50) S.1 S.2.1 dX2_receiveArrivedNews_42 (by decide) (fun c6 => ?_) (fun c6 => ?_)
          · refine lv_iinc (v := (nI (i2 + 1))) (lv' := [(1, .int (nI (i2 + 1))), (0, .ref (a 0))]) S.1 S.2.1 dX2_receiveArrivedNews_50 hl (k := 0) rfl (nI_add _ 1) (by decide) rfl (fun ls hl => ?_)
            refine lv_goto (tgt := 13) S.1 S.2.1 dX2_receiveArrivedNews_53 (by decide) ?_
            exact ih2 (i2 + 1) σ2 (by omega) (itr_step he2 (by first | (simp only [fArr, c1, c5, c6, reduceIte, Bool.false_eq_true, eq_self_iff_true, if_true, if_false]; done) | with_reducible rfl)) _ _ hP hD hS _ (lv_sub hl [0, 1] rfl)
          · refine lv_aload_n S.1 S.2.1 dX2_receiveArrivedNews_45 rfl (lv_at hl 1 rfl) ?_
            refine lv_iload_n S.1 S.2.1 dX2_receiveArrivedNews_46 rfl (lv_at hl 0 rfl) ?_
            refine call_X2_receive S hK hN hP hD hS hA (row := i2) (by omega) hl.1 (Nat.le_of_ble_eq_true rfl) ⟨Nat.le_of_ble_eq_true rfl, Nat.le_of_ble_eq_true rfl⟩ dX2_receiveArrivedNews_47 ⟨Nat.le_refl _, Nat.le_refl _⟩ (fun H locs hP hD hS => ?_)
            refine lv_iinc (v := (nI (i2 + 1))) (lv' := [(1, .int (nI (i2 + 1))), (0, .ref (a 0))]) S.1 S.2.1 dX2_receiveArrivedNews_50 hl (k := 0) rfl (nI_add _ 1) (by decide) rfl (fun ls hl => ?_)
            refine lv_goto (tgt := 13) S.1 S.2.1 dX2_receiveArrivedNews_53 (by decide) ?_
            exact ih2 (i2 + 1) (cRecv i2 σ2) (by omega) (itr_step he2 (by first | (simp only [fArr, c1, c5, eq_true c6, reduceIte, Bool.false_eq_true, eq_self_iff_true, if_true, if_false]; done) | with_reducible rfl)) _ _ hP hD hS _ (lv_sub hl [0, 1] rfl)
    exact lp2 512 0 σ (by omega) rfl _ _ hP hD hS _ (lv_sub hl [0, 1] rfl)
  · have e9 : cArr σ = σ := by first | (simp only [cArr, eq_true c1, reduceIte, Bool.false_eq_true, eq_self_iff_true, if_true, if_false]; done) | with_reducible rfl
    rw [e9]
    exact kret_v S hr hlk hP hD hS dX2_receiveArrivedNews_10
theorem call_X2_receiveArrivedNews {p : Program} {l : Launch} {e : Env} {R : Room} {s : State} {m : MethodId} {args : Array Value} {below : List Frame} {meth : Method} {c : Code} {H : Heap} {locs : List Loc} {cells slots : Nat} {Q : State → Prop} {cc : ByteArray} {pc nL : Nat} {ls : Array Slot} {rest : List Value} {D : va_G} {A : Nat → Prop} {w0 : Cond} {X : va_W} {cy : Nat → ClassId} {a : Nat → Nat} {σ : CS} (S : CallFix p m c cc nL s args (w0 :: gw) RX2) (hK : va_K D vwCl (tyA cy) s) (hN : kN nestC s) (hP : va_P D vwCl (X ++ cB cy a σ) H) (hD : va_D A (X ++ cB cy a σ)) (hS : va_S A s.heap H locs) (hA : ∀ q, s.heap.size ≤ q → A q)   (hsz : ls.size = nL) (hW : (rest.map fun v => v.category).sum ≤ 8) (hR : 5 + 1 ≤ R.frames ∧ 8 + (2 + 11) + 32 * 5 ≤ R.locals) (hdg : decode cc pc = .ok (.invokevirtual 127, 3)) (hfc : cells ≤ R.cells ∧ slots ≤ R.slots)
    (kk : ∀ (H1 : Heap) (locs1 : List Loc), va_P D vwCl (X ++ cB cy a (cArr σ)) H1 → va_D A (X ++ cB cy a (cArr σ)) → va_S A s.heap H1 locs1 → W p l e R s m args below meth c H1 locs1 cells slots Q (F0 m (pc + 3) ls (rest))) : W p l e R s m args below meth c H locs cells slots Q (F0 m pc ls (.ref (a 0) :: rest)) :=
  kgo_v (va_runV (As := []) (rest := rest) S (c_X2_receiveArrivedNews l D cy a X σ   H.size) (cwV 0 S.2.2.2.2 (gw_good_1 wm_413 (gw_good_1 wm_415 (gw_good_1 wm_26 (gw_good_1 wm_48 (gw_good_in wm_416))))) rfl rfl rfl (by decide +kernel) hR) ⟨kblind nestC_ok, crecv_net hK hP, kpre nestC_ok hN hK hP hD⟩ rfl rfl hsz rfl (lv_room hW) hdg hfc) hD hS hA kk
set_option maxHeartbeats 400000 in
set_option maxRecDepth 100000 in
theorem c_X2_measureWays (l : Launch) (D : va_G) (cy : Nat → ClassId) (a : Nat → Nat) (X : va_W) (σ : CS) (v : Nat) (g : Nat) (hv : v < 8) (hg : g < 8) : MetV l yX2_measureWays cX2_measureWays 7 (kRm 2 0 0) D (tyA cy) nestC [.ref (a 0), .int (nI (v)), .int (nI (g))] (X ++ cB cy a σ) (X ++ cB cy a (cMeas v g σ)) 0 0 := by
  intro sz
  refine kmet (own := RX2) (by decide) rfl (Nat.le_of_ble_eq_true rfl) (fun p e s m args below meth c S hr hlk hK hN hP hD hsz hA hnm ls hl => ?_)
  have hS : va_S (va_A (X ++ cB cy a σ) sz) s.heap s.heap [] := va_S.rf
  have hl : lv_has ls 7 [(0, .ref (a 0)), (1, .int (nI (v))), (2, .int (nI (g)))] := hl
  refine lv_iconst (v := (nI 0)) S.1 S.2.1 dX2_measureWays_0 (by decide) ?_
  refine lv_istore_n (lv' := [(3, .int (nI 0)), (0, .ref (a 0)), (1, .int (nI (v))), (2, .int (nI (g)))]) S.1 S.2.1 dX2_measureWays_1 rfl hl (by decide) rfl (fun ls hl => ?_)
  have lp1 : ∀ (n1 i1 : Nat) (σ1 : CS), i1 + n1 = 8 → itr (fM0 g) n1 i1 σ1 = itr (fM0 g) 8 0 σ → ∀ (H : Heap) (locs : List Loc), va_P D vwCl (X ++ cB cy a σ1) H → va_D (va_A (X ++ cB cy a σ) sz) (X ++ cB cy a σ1) → va_S (va_A (X ++ cB cy a σ) sz) s.heap H locs → ∀ ls : Array Slot, lv_has ls 7 [(3, .int (nI (i1))), (0, .ref (a 0)), (1, .int (nI (v))), (2, .int (nI (g)))] → W p l e (kRm 2 0 0) s m args below meth c H locs 0 0 (MQ below (kQv D (X ++ cB cy a σ) (X ++ cB cy a (cMeas v g σ)) sz) args s 0 0 (va_A (X ++ cB cy a σ) sz)) (F0 m 2 ls []) := by
    intro n1
    induction n1 with
    | zero =>
      intro i1 σ1 hi1 he1 H locs hP hD hS ls hl
      have hi1 : i1 = 8 := by omega
      have he1 : σ1 = itr (fM0 g) 8 0 σ := he1
      refine lv_iload_n S.1 S.2.1 dX2_measureWays_2 rfl (lv_at hl 0 rfl) ?_
      refine lv_bipush (v := (nI 8)) S.1 S.2.1 dX2_measureWays_3 (by decide) ?_
      refine lv_icmp_ge (tgt := 32) S.1 S.2.1 dX2_measureWays_5 (by decide) (fun _ => ?_) (fun c => absurd (nI_le (by omega) (by omega)) c)
      refine lv_iconst (v := (nI 1)) S.1 S.2.1 dX2_measureWays_32 (by decide) ?_
      refine lv_istore_n (lv' := [(3, .int (nI 1)), (0, .ref (a 0)), (1, .int (nI (v))), (2, .int (nI (g)))]) S.1 S.2.1 dX2_measureWays_33 rfl hl (by decide) rfl (fun ls hl => ?_)
      have lp3 : ∀ (n3 i3 : Nat) (σ3 : CS), i3 + n3 = 8 → itr (fM1 v) n3 i3 σ3 = itr (fM1 v) 7 1 σ1 → ∀ (H : Heap) (locs : List Loc), va_P D vwCl (X ++ cB cy a σ3) H → va_D (va_A (X ++ cB cy a σ) sz) (X ++ cB cy a σ3) → va_S (va_A (X ++ cB cy a σ) sz) s.heap H locs → ∀ ls : Array Slot, lv_has ls 7 [(3, .int (nI (i3))), (0, .ref (a 0)), (1, .int (nI (v))), (2, .int (nI (g)))] → W p l e (kRm 2 0 0) s m args below meth c H locs 0 0 (MQ below (kQv D (X ++ cB cy a σ) (X ++ cB cy a (cMeas v g σ)) sz) args s 0 0 (va_A (X ++ cB cy a σ) sz)) (F0 m 34 ls []) := by
        intro n3
        induction n3 with
        | zero =>
          intro i3 σ3 hi3 he3 H locs hP hD hS ls hl
          have hi3 : i3 = 8 := by omega
          have he3 : σ3 = itr (fM1 v) 7 1 σ1 := he3
          refine lv_iload_n S.1 S.2.1 dX2_measureWays_34 rfl (lv_at hl 0 rfl) ?_
          refine lv_bipush (v := (nI 8)) S.1 S.2.1 dX2_measureWays_35 (by decide) ?_
          refine lv_icmp_ge (tgt := 131) S.1 S.2.1 dX2_measureWays_37 (by decide) (fun _ => ?_) (fun c => absurd (nI_le (by omega) (by omega)) c)
          have e9 : cMeas v g σ = σ3 := by first | (simp only [cMeas, ← he1, ← he3, reduceIte, Bool.false_eq_true, eq_self_iff_true, if_true, if_false]; done) | with_reducible rfl
          rw [e9]
          exact kret_v S hr hlk hP hD hS dX2_measureWays_131
        | succ n3 ih3 =>
          intro i3 σ3 hi3 he3 H locs hP hD hS ls hl
          have hlt3 : i3 < 8 := by omega
          refine lv_iload_n S.1 S.2.1 dX2_measureWays_34 rfl (lv_at hl 0 rfl) ?_
          refine lv_bipush (v := (nI 8)) S.1 S.2.1 dX2_measureWays_35 (by decide) ?_
          refine lv_icmp_ge (tgt := 131) S.1 S.2.1 dX2_measureWays_37 (by decide) (fun c => absurd c (nI_ge (by omega) (by omega))) (fun _ => ?_)
          refine lv_iconst (v := (nI 0)) S.1 S.2.1 dX2_measureWays_40 (by decide) ?_
          refine lv_istore (lv' := [(4, .int (nI 0)), (3, .int (nI (i3))), (0, .ref (a 0)), (1, .int (nI (v))), (2, .int (nI (g)))]) S.1 S.2.1 dX2_measureWays_41 hl (by decide) rfl (fun ls hl => ?_)
          have lp6 : ∀ (n6 i6 : Nat) (σ6 : CS), i6 + n6 = 8 → itr (fM2 v) n6 i6 σ6 = itr (fM2 v) 8 0 σ3 → ∀ (H : Heap) (locs : List Loc), va_P D vwCl (X ++ cB cy a σ6) H → va_D (va_A (X ++ cB cy a σ) sz) (X ++ cB cy a σ6) → va_S (va_A (X ++ cB cy a σ) sz) s.heap H locs → ∀ ls : Array Slot, lv_has ls 7 [(4, .int (nI (i6))), (3, .int (nI (i3))), (0, .ref (a 0)), (1, .int (nI (v))), (2, .int (nI (g)))] → W p l e (kRm 2 0 0) s m args below meth c H locs 0 0 (MQ below (kQv D (X ++ cB cy a σ) (X ++ cB cy a (cMeas v g σ)) sz) args s 0 0 (va_A (X ++ cB cy a σ) sz)) (F0 m 43 ls []) := by
            intro n6
            induction n6 with
            | zero =>
              intro i6 σ6 hi6 he6 H locs hP hD hS ls hl
              have hi6 : i6 = 8 := by omega
              have he6 : σ6 = itr (fM2 v) 8 0 σ3 := he6
              refine lv_iload S.1 S.2.1 dX2_measureWays_43 (lv_at hl 0 rfl) ?_
              refine lv_bipush (v := (nI 8)) S.1 S.2.1 dX2_measureWays_45 (by decide) ?_
              refine lv_icmp_ge (tgt := 125) S.1 S.2.1 dX2_measureWays_47 (by decide) (fun _ => ?_) (fun c => absurd (nI_le (by omega) (by omega)) c)
              refine lv_iinc (v := (nI (i3 + 1))) (lv' := [(3, .int (nI (i3 + 1))), (4, .int (nI (i6))), (0, .ref (a 0)), (1, .int (nI (v))), (2, .int (nI (g)))]) S.1 S.2.1 dX2_measureWays_125 hl (k := 1) rfl (nI_add _ 1) (by decide) rfl (fun ls hl => ?_)
              refine lv_goto (tgt := 34) S.1 S.2.1 dX2_measureWays_128 (by decide) ?_
              exact ih3 (i3 + 1) σ6 (by omega) (itr_step he3 (by first | (simp only [fM1, ← he1, ← he6, reduceIte, Bool.false_eq_true, eq_self_iff_true, if_true, if_false]; done) | with_reducible rfl)) _ _ hP hD hS _ (lv_sub hl [0, 2, 3, 4] rfl)
            | succ n6 ih6 =>
              intro i6 σ6 hi6 he6 H locs hP hD hS ls hl
              have hlt6 : i6 < 8 := by omega
              refine lv_iload S.1 S.2.1 dX2_measureWays_43 (lv_at hl 0 rfl) ?_
              refine lv_bipush (v := (nI 8)) S.1 S.2.1 dX2_measureWays_45 (by decide) ?_
              refine lv_icmp_ge (tgt := 125) S.1 S.2.1 dX2_measureWays_47 (by decide) (fun c => absurd c (nI_ge (by omega) (by omega))) (fun _ => ?_)
              refine lv_iconst (v := (nI 0)) S.1 S.2.1 dX2_measureWays_50 (by decide) ?_
              refine lv_istore (lv' := [(5, .int (nI 0)), (4, .int (nI (i6))), (3, .int (nI (i3))), (0, .ref (a 0)), (1, .int (nI (v))), (2, .int (nI (g)))]) S.1 S.2.1 dX2_measureWays_51 hl (by decide) rfl (fun ls hl => ?_)
              have lp9 : ∀ (n9 i9 : Nat) (σ9 : CS), i9 + n9 = 8 → itr (fM3 v i6) n9 i9 σ9 = itr (fM3 v i6) 8 0 σ6 → ∀ (H : Heap) (locs : List Loc), va_P D vwCl (X ++ cB cy a σ9) H → va_D (va_A (X ++ cB cy a σ) sz) (X ++ cB cy a σ9) → va_S (va_A (X ++ cB cy a σ) sz) s.heap H locs → ∀ ls : Array Slot, lv_has ls 7 [(5, .int (nI (i9))), (4, .int (nI (i6))), (3, .int (nI (i3))), (0, .ref (a 0)), (1, .int (nI (v))), (2, .int (nI (g)))] → W p l e (kRm 2 0 0) s m args below meth c H locs 0 0 (MQ below (kQv D (X ++ cB cy a σ) (X ++ cB cy a (cMeas v g σ)) sz) args s 0 0 (va_A (X ++ cB cy a σ) sz)) (F0 m 53 ls []) := by
                intro n9
                induction n9 with
                | zero =>
                  intro i9 σ9 hi9 he9 H locs hP hD hS ls hl
                  have hi9 : i9 = 8 := by omega
                  have he9 : σ9 = itr (fM3 v i6) 8 0 σ6 := he9
                  refine lv_iload S.1 S.2.1 dX2_measureWays_53 (lv_at hl 0 rfl) ?_
                  refine lv_bipush (v := (nI 8)) S.1 S.2.1 dX2_measureWays_55 (by decide) ?_
                  refine lv_icmp_ge (tgt := 119) S.1 S.2.1 dX2_measureWays_57 (by decide) (fun _ => ?_) (fun c => absurd (nI_le (by omega) (by omega)) c)
                  refine lv_iinc (v := (nI (i6 + 1))) (lv' := [(4, .int (nI (i6 + 1))), (5, .int (nI (i9))), (3, .int (nI (i3))), (0, .ref (a 0)), (1, .int (nI (v))), (2, .int (nI (g)))]) S.1 S.2.1 dX2_measureWays_119 hl (k := 1) rfl (nI_add _ 1) (by decide) rfl (fun ls hl => ?_)
                  refine lv_goto (tgt := 43) S.1 S.2.1 dX2_measureWays_122 (by decide) ?_
                  exact ih6 (i6 + 1) σ9 (by omega) (itr_step he6 (by first | (simp only [fM2, ← he1, ← he9, reduceIte, Bool.false_eq_true, eq_self_iff_true, if_true, if_false]; done) | with_reducible rfl)) _ _ hP hD hS _ (lv_sub hl [0, 2, 3, 4, 5] rfl)
                | succ n9 ih9 =>
                  intro i9 σ9 hi9 he9 H locs hP hD hS ls hl
                  have hlt9 : i9 < 8 := by omega
                  refine lv_iload S.1 S.2.1 dX2_measureWays_53 (lv_at hl 0 rfl) ?_
                  refine lv_bipush (v := (nI 8)) S.1 S.2.1 dX2_measureWays_55 (by decide) ?_
                  refine lv_icmp_ge (tgt := 119) S.1 S.2.1 dX2_measureWays_57 (by decide) (fun c => absurd c (nI_ge (by omega) (by omega))) (fun _ => ?_)
                  refine lv_aload_n S.1 S.2.1 dX2_measureWays_60 rfl (lv_at hl 3 rfl) ?_
                  refine lv_iload_n S.1 S.2.1 dX2_measureWays_61 rfl (lv_at hl 4 rfl) ?_
                  refine lv_iload S.1 S.2.1 dX2_measureWays_62 (lv_at hl 1 rfl) ?_
                  refine lv_iload S.1 S.2.1 dX2_measureWays_64 (lv_at hl 0 rfl) ?_
                  refine call_X2_stepCost S hK hN hP hD hS hA (v := v) (f := i6) (t := i9) (by omega) (by omega) (by omega) hl.1 (Nat.le_of_ble_eq_true rfl) ⟨Nat.le_of_ble_eq_true rfl, Nat.le_of_ble_eq_true rfl⟩ dX2_measureWays_66 ⟨Nat.le_refl _, Nat.le_refl _⟩ (fun H locs hP hD hS => ?_)
                  refine lv_istore (lv' := [(6, .int (cStep σ9 v i6 i9)), (5, .int (nI (i9))), (4, .int (nI (i6))), (3, .int (nI (i3))), (0, .ref (a 0)), (1, .int (nI (v))), (2, .int (nI (g)))]) S.1 S.2.1 dX2_measureWays_69 hl (by decide) rfl (fun ls hl => ?_)
                  refine lv_iload S.1 S.2.1 dX2_measureWays_71 (lv_at hl 0 rfl) ?_
                  refine lv_if_le (tgt := 113) S.1 S.2.1 dX2_measureWays_73 (by decide) (fun c12 => ?_) (fun c12 => ?_)
                  · refine lv_iinc (v := (nI (i9 + 1))) (lv' := [(5, .int (nI (i9 + 1))), (6, .int (cStep σ9 v i6 i9)), (4, .int (nI (i6))), (3, .int (nI (i3))), (0, .ref (a 0)), (1, .int (nI (v))), (2, .int (nI (g)))]) S.1 S.2.1 dX2_measureWays_113 hl (k := 1) rfl (nI_add _ 1) (by decide) rfl (fun ls hl => ?_)
                    refine lv_goto (tgt := 53) S.1 S.2.1 dX2_measureWays_116 (by decide) ?_
                    exact ih9 (i9 + 1) σ9 (by omega) (itr_step he9 (by first | (simp only [fM3, ← he1, c12, reduceIte, Bool.false_eq_true, eq_self_iff_true, if_true, if_false]; done) | with_reducible rfl)) _ _ hP hD hS _ (lv_sub hl [0, 2, 3, 4, 5, 6] rfl)
                  · refine lv_iload S.1 S.2.1 dX2_measureWays_76 (lv_at hl 0 rfl) ?_
                    refine lv_aload_n S.1 S.2.1 dX2_measureWays_78 rfl (lv_at hl 4 rfl) ?_
                    refine cf_net_costToGoal S hK hP dX2_measureWays_79 ?_
                    refine lv_iload S.1 S.2.1 dX2_measureWays_82 (lv_at hl 1 rfl) ?_
                    refine ca_costToGoal S hK hP (j := i9) (by omega) dX2_measureWays_84 ?_
                    refine lv_iadd S.1 S.2.1 dX2_measureWays_85 ?_
                    refine lv_aload_n S.1 S.2.1 dX2_measureWays_86 rfl (lv_at hl 4 rfl) ?_
                    refine cf_net_costToGoal S hK hP dX2_measureWays_87 ?_
                    refine lv_iload S.1 S.2.1 dX2_measureWays_90 (lv_at hl 2 rfl) ?_
                    refine ca_costToGoal S hK hP (j := i6) (by omega) dX2_measureWays_92 ?_
                    refine lv_icmp_ge (tgt := 113) S.1 S.2.1 dX2_measureWays_93 (by decide) (fun c13 => ?_) (fun c13 => ?_)
                    · refine lv_iinc (v := (nI (i9 + 1))) (lv' := [(5, .int (nI (i9 + 1))), (6, .int (cStep σ9 v i6 i9)), (4, .int (nI (i6))), (3, .int (nI (i3))), (0, .ref (a 0)), (1, .int (nI (v))), (2, .int (nI (g)))]) S.1 S.2.1 dX2_measureWays_113 hl (k := 1) rfl (nI_add _ 1) (by decide) rfl (fun ls hl => ?_)
                      refine lv_goto (tgt := 53) S.1 S.2.1 dX2_measureWays_116 (by decide) ?_
                      exact ih9 (i9 + 1) σ9 (by omega) (itr_step he9 (by first | (simp only [fM3, ← he1, c12, c13, reduceIte, Bool.false_eq_true, eq_self_iff_true, if_true, if_false]; done) | with_reducible rfl)) _ _ hP hD hS _ (lv_sub hl [0, 2, 3, 4, 5, 6] rfl)
                    · refine lv_aload_n S.1 S.2.1 dX2_measureWays_96 rfl (lv_at hl 4 rfl) ?_
                      refine cf_net_costToGoal S hK hP dX2_measureWays_97 ?_
                      refine lv_iload S.1 S.2.1 dX2_measureWays_100 (lv_at hl 2 rfl) ?_
                      refine lv_iload S.1 S.2.1 dX2_measureWays_102 (lv_at hl 0 rfl) ?_
                      refine lv_aload_n S.1 S.2.1 dX2_measureWays_104 rfl (lv_at hl 4 rfl) ?_
                      refine cf_net_costToGoal S hK hP dX2_measureWays_105 ?_
                      refine lv_iload S.1 S.2.1 dX2_measureWays_108 (lv_at hl 1 rfl) ?_
                      refine ca_costToGoal S hK hP (j := i9) (by omega) dX2_measureWays_110 ?_
                      refine lv_iadd S.1 S.2.1 dX2_measureWays_111 ?_
                      refine cs_costToGoal S hK hP hD hS (j := i6) (by omega) dX2_measureWays_112 (fun H locs hP hD hS => ?_)
                      refine lv_iinc (v := (nI (i9 + 1))) (lv' := [(5, .int (nI (i9 + 1))), (6, .int (cStep σ9 v i6 i9)), (4, .int (nI (i6))), (3, .int (nI (i3))), (0, .ref (a 0)), (1, .int (nI (v))), (2, .int (nI (g)))]) S.1 S.2.1 dX2_measureWays_113 hl (k := 1) rfl (nI_add _ 1) (by decide) rfl (fun ls hl => ?_)
                      refine lv_goto (tgt := 53) S.1 S.2.1 dX2_measureWays_116 (by decide) ?_
                      exact ih9 (i9 + 1) (sI 11 i6 ((cStep σ9 v i6 i9) + (σ9.1 11 i9)) σ9) (by omega) (itr_step he9 (by first | (simp only [fM3, ← he1, c12, c13, reduceIte, Bool.false_eq_true, eq_self_iff_true, if_true, if_false]; done) | with_reducible rfl)) _ _ hP hD hS _ (lv_sub hl [0, 2, 3, 4, 5, 6] rfl)
              exact lp9 8 0 σ6 (by omega) rfl _ _ hP hD hS _ (lv_sub hl [0, 1, 2, 3, 4, 5] rfl)
          exact lp6 8 0 σ3 (by omega) rfl _ _ hP hD hS _ (lv_sub hl [0, 1, 2, 3, 4] rfl)
      exact lp3 7 1 σ1 (by omega) rfl _ _ hP hD hS _ (lv_sub hl [0, 1, 2, 3] rfl)
    | succ n1 ih1 =>
      intro i1 σ1 hi1 he1 H locs hP hD hS ls hl
      have hlt1 : i1 < 8 := by omega
      refine lv_iload_n S.1 S.2.1 dX2_measureWays_2 rfl (lv_at hl 0 rfl) ?_
      refine lv_bipush (v := (nI 8)) S.1 S.2.1 dX2_measureWays_3 (by decide) ?_
      refine lv_icmp_ge (tgt := 32) S.1 S.2.1 dX2_measureWays_5 (by decide) (fun c => absurd c (nI_ge (by omega) (by omega))) (fun _ => ?_)
      refine lv_aload_n S.1 S.2.1 dX2_measureWays_8 rfl (lv_at hl 1 rfl) ?_
      refine cf_net_costToGoal S hK hP dX2_measureWays_9 ?_
      refine lv_iload_n S.1 S.2.1 dX2_measureWays_12 rfl (lv_at hl 0 rfl) ?_
      refine lv_iload_n S.1 S.2.1 dX2_measureWays_13 rfl (lv_at hl 0 rfl) ?_
      refine lv_iload_n S.1 S.2.1 dX2_measureWays_14 rfl (lv_at hl 3 rfl) ?_
      refine lv_icmp_ne (tgt := 22) S.1 S.2.1 dX2_measureWays_15 (by decide) (fun c15 => ?_) (fun c15 => ?_)
      · have c15 : ¬ i1 = g := fun h => c15 ((nI_eq (a := i1) (b := g) (by omega) (by omega)).mpr h)
        refine lv_sipush (v := (nI 1000)) S.1 S.2.1 dX2_measureWays_22 (by decide) ?_
        refine cs_costToGoal S hK hP hD hS (j := i1) (by omega) dX2_measureWays_25 (fun H locs hP hD hS => ?_)
        refine lv_iinc (v := (nI (i1 + 1))) (lv' := [(3, .int (nI (i1 + 1))), (0, .ref (a 0)), (1, .int (nI (v))), (2, .int (nI (g)))]) S.1 S.2.1 dX2_measureWays_26 hl (k := 0) rfl (nI_add _ 1) (by decide) rfl (fun ls hl => ?_)
        refine lv_goto (tgt := 2) S.1 S.2.1 dX2_measureWays_29 (by decide) ?_
        exact ih1 (i1 + 1) (sI 11 i1 (nI 1000) σ1) (by omega) (itr_step he1 (by first | (simp only [fM0, c15, reduceIte, Bool.false_eq_true, eq_self_iff_true, if_true, if_false]; done) | with_reducible rfl)) _ _ hP hD hS _ (lv_sub hl [0, 1, 2, 3] rfl)
      · have c15 : i1 = g := (nI_eq (a := i1) (b := g) (by omega) (by omega)).mp c15
        refine lv_iconst (v := (nI 0)) S.1 S.2.1 dX2_measureWays_18 (by decide) ?_
        refine lv_goto (tgt := 25) S.1 S.2.1 dX2_measureWays_19 (by decide) ?_
        refine cs_costToGoal S hK hP hD hS (j := i1) (by omega) dX2_measureWays_25 (fun H locs hP hD hS => ?_)
        refine lv_iinc (v := (nI (i1 + 1))) (lv' := [(3, .int (nI (i1 + 1))), (0, .ref (a 0)), (1, .int (nI (v))), (2, .int (nI (g)))]) S.1 S.2.1 dX2_measureWays_26 hl (k := 0) rfl (nI_add _ 1) (by decide) rfl (fun ls hl => ?_)
        refine lv_goto (tgt := 2) S.1 S.2.1 dX2_measureWays_29 (by decide) ?_
        exact ih1 (i1 + 1) (sI 11 i1 (nI 0) σ1) (by omega) (itr_step he1 (by first | (simp only [fM0, eq_true c15, reduceIte, Bool.false_eq_true, eq_self_iff_true, if_true, if_false]; done) | with_reducible rfl)) _ _ hP hD hS _ (lv_sub hl [0, 1, 2, 3] rfl)
  exact lp1 8 0 σ (by omega) rfl _ _ hP hD hS _ (lv_sub hl [0, 1, 2, 3] rfl)
theorem call_X2_measureWays {p : Program} {l : Launch} {e : Env} {R : Room} {s : State} {m : MethodId} {args : Array Value} {below : List Frame} {meth : Method} {c : Code} {H : Heap} {locs : List Loc} {cells slots : Nat} {Q : State → Prop} {cc : ByteArray} {pc nL : Nat} {ls : Array Slot} {rest : List Value} {D : va_G} {A : Nat → Prop} {w0 : Cond} {X : va_W} {cy : Nat → ClassId} {a : Nat → Nat} {σ : CS} (S : CallFix p m c cc nL s args (w0 :: gw) RX2) (hK : va_K D vwCl (tyA cy) s) (hN : kN nestC s) (hP : va_P D vwCl (X ++ cB cy a σ) H) (hD : va_D A (X ++ cB cy a σ)) (hS : va_S A s.heap H locs) (hA : ∀ q, s.heap.size ≤ q → A q) {v : Nat} {g : Nat} (hv : v < 8) (hg : g < 8) (hsz : ls.size = nL) (hW : (rest.map fun v => v.category).sum ≤ 8) (hR : 2 + 1 ≤ R.frames ∧ 8 + (7 + 11) + 32 * 2 ≤ R.locals) (hdg : decode cc pc = .ok (.invokevirtual 149, 3)) (hfc : cells ≤ R.cells ∧ slots ≤ R.slots)
    (kk : ∀ (H1 : Heap) (locs1 : List Loc), va_P D vwCl (X ++ cB cy a (cMeas v g σ)) H1 → va_D A (X ++ cB cy a (cMeas v g σ)) → va_S A s.heap H1 locs1 → W p l e R s m args below meth c H1 locs1 cells slots Q (F0 m (pc + 3) ls (rest))) : W p l e R s m args below meth c H locs cells slots Q (F0 m pc ls (.int (nI (g)) :: .int (nI (v)) :: .ref (a 0) :: rest)) :=
  kgo_v (va_runV (As := [.int (nI (v)), .int (nI (g))]) (rest := rest) S (c_X2_measureWays l D cy a X σ v g hv hg H.size) (cwV 2 S.2.2.2.2 (gw_good_1 wm_161 (gw_good_1 wm_163 (gw_good_1 wm_2 (gw_good_1 wm_48 (gw_good_in wm_164))))) rfl rfl rfl (by decide +kernel) hR) ⟨kblind nestC_ok, crecv_net hK hP, kpre nestC_ok hN hK hP hD⟩ rfl rfl hsz rfl (lv_room hW) hdg hfc) hD hS hA kk
set_option maxHeartbeats 400000 in
set_option maxRecDepth 100000 in
theorem c_X2_nextHop (l : Launch) (D : va_G) (cy : Nat → ClassId) (a : Nat → Nat) (X : va_W) (σ : CS) (v : Nat) (g : Nat) (hv : v < 8) (hg : g < 8) : MetI l yX2_nextHop cX2_nextHop 5 .int (kRm 3 0 0) D (tyA cy) nestC [.ref (a 0), .int (nI (v)), .int (nI (g))] (X ++ cB cy a σ) (X ++ cB cy a (cMeas v g σ)) (cHop v g σ) 0 0 := by
  intro sz
  refine kmet (own := RX2) (by decide) rfl (Nat.le_of_ble_eq_true rfl) (fun p e s m args below meth c S hr hlk hK hN hP hD hsz hA hnm ls hl => ?_)
  have hS : va_S (va_A (X ++ cB cy a σ) sz) s.heap s.heap [] := va_S.rf
  have hl : lv_has ls 5 [(0, .ref (a 0)), (1, .int (nI (v))), (2, .int (nI (g)))] := hl
  refine lv_aload_n S.1 S.2.1 dX2_nextHop_0 rfl (lv_at hl 0 rfl) ?_
  refine lv_iload_n S.1 S.2.1 dX2_nextHop_1 rfl (lv_at hl 1 rfl) ?_
  refine lv_iload_n S.1 S.2.1 dX2_nextHop_2 rfl (lv_at hl 2 rfl) ?_
  refine call_X2_measureWays S hK hN hP hD hS hA (v := v) (g := g) (by omega) (by omega) hl.1 (Nat.le_of_ble_eq_true rfl) ⟨Nat.le_of_ble_eq_true rfl, Nat.le_of_ble_eq_true rfl⟩ dX2_nextHop_3 ⟨Nat.le_refl _, Nat.le_refl _⟩ (fun H locs hP hD hS => ?_)
  refine lv_iload_n S.1 S.2.1 dX2_nextHop_6 rfl (lv_at hl 1 rfl) ?_
  refine lv_iload_n S.1 S.2.1 dX2_nextHop_7 rfl (lv_at hl 2 rfl) ?_
  refine lv_icmp_eq (tgt := 23) S.1 S.2.1 dX2_nextHop_8 (by decide) (fun c1 => ?_) (fun c1 => ?_)
  · have c1 : v = g := (nI_eq (a := v) (b := g) (by omega) (by omega)).mp c1
    refine lv_iconst (v := (-1)) S.1 S.2.1 dX2_nextHop_23 (by decide) ?_
    exact kret_i S hr hlk hP hD hS (by first | (simp only [cHop, Option.getD_some, Option.getD_none, eq_true c1, reduceIte, Bool.false_eq_true, eq_self_iff_true, if_true, if_false]; done) | with_reducible rfl) dX2_nextHop_24
  · have c1 : ¬ v = g := fun h => c1 ((nI_eq (a := v) (b := g) (by omega) (by omega)).mpr h)
    refine lv_aload_n S.1 S.2.1 dX2_nextHop_11 rfl (lv_at hl 0 rfl) ?_
    refine cf_net_costToGoal S hK hP dX2_nextHop_12 ?_
    refine lv_iload_n S.1 S.2.1 dX2_nextHop_15 rfl (lv_at hl 1 rfl) ?_
    refine ca_costToGoal S hK hP (j := v) (by omega) dX2_nextHop_16 ?_
    refine lv_sipush (v := (nI 1000)) S.1 S.2.1 dX2_nextHop_17 (by decide) ?_
    refine lv_icmp_lt (tgt := 25) S.1 S.2.1 dX2_nextHop_20 (by decide) (fun c2 => ?_) (fun c2 => ?_)
    · refine lv_iconst (v := (nI 0)) S.1 S.2.1 dX2_nextHop_25 (by decide) ?_
      refine lv_istore_n (lv' := [(3, .int (nI 0)), (0, .ref (a 0)), (1, .int (nI (v))), (2, .int (nI (g)))]) S.1 S.2.1 dX2_nextHop_26 rfl hl (by decide) rfl (fun ls hl => ?_)
      have lp3 : ∀ (n3 i3 : Nat) , i3 + n3 = 8 → srch (fHop (cMeas v g σ) v) n3 i3 = srch (fHop (cMeas v g σ) v) 8 0 → ∀ (H : Heap) (locs : List Loc), va_P D vwCl (X ++ cB cy a (cMeas v g σ)) H → va_D (va_A (X ++ cB cy a σ) sz) (X ++ cB cy a (cMeas v g σ)) → va_S (va_A (X ++ cB cy a σ) sz) s.heap H locs → ∀ ls : Array Slot, lv_has ls 5 [(3, .int (nI (i3))), (0, .ref (a 0)), (1, .int (nI (v))), (2, .int (nI (g)))] → W p l e (kRm 3 0 0) s m args below meth c H locs 0 0 (MQ below (kQi D (X ++ cB cy a σ) (X ++ cB cy a (cMeas v g σ)) (cHop v g σ) sz) args s 0 0 (va_A (X ++ cB cy a σ) sz)) (F0 m 27 ls []) := by
        intro n3
        induction n3 with
        | zero =>
          intro i3 hi3 he3 H locs hP hD hS ls hl
          have hi3 : i3 = 8 := by omega
          have he3 : none = srch (fHop (cMeas v g σ) v) 8 0 := he3
          refine lv_iload_n S.1 S.2.1 dX2_nextHop_27 rfl (lv_at hl 0 rfl) ?_
          refine lv_bipush (v := (nI 8)) S.1 S.2.1 dX2_nextHop_28 (by decide) ?_
          refine lv_icmp_ge (tgt := 73) S.1 S.2.1 dX2_nextHop_30 (by decide) (fun _ => ?_) (fun c => absurd (nI_le (by omega) (by omega)) c)
          refine lv_iconst (v := (-1)) S.1 S.2.1 dX2_nextHop_73 (by decide) ?_
          exact kret_i S hr hlk hP hD hS (by first | (simp only [cHop, Option.getD_some, Option.getD_none, c1, c2, ← he3, reduceIte, Bool.false_eq_true, eq_self_iff_true, if_true, if_false]; done) | with_reducible rfl) dX2_nextHop_74
        | succ n3 ih3 =>
          intro i3 hi3 he3 H locs hP hD hS ls hl
          have hlt3 : i3 < 8 := by omega
          refine lv_iload_n S.1 S.2.1 dX2_nextHop_27 rfl (lv_at hl 0 rfl) ?_
          refine lv_bipush (v := (nI 8)) S.1 S.2.1 dX2_nextHop_28 (by decide) ?_
          refine lv_icmp_ge (tgt := 73) S.1 S.2.1 dX2_nextHop_30 (by decide) (fun c => absurd c (nI_ge (by omega) (by omega))) (fun _ => ?_)
          refine lv_aload_n S.1 S.2.1 dX2_nextHop_33 rfl (lv_at hl 1 rfl) ?_
          refine lv_iload_n S.1 S.2.1 dX2_nextHop_34 rfl (lv_at hl 2 rfl) ?_
          refine lv_iload_n S.1 S.2.1 dX2_nextHop_35 rfl (lv_at hl 2 rfl) ?_
          refine lv_iload_n S.1 S.2.1 dX2_nextHop_36 rfl (lv_at hl 0 rfl) ?_
          refine call_X2_stepCost S hK hN hP hD hS hA (v := v) (f := v) (t := i3) (by omega) (by omega) (by omega) hl.1 (Nat.le_of_ble_eq_true rfl) ⟨Nat.le_of_ble_eq_true rfl, Nat.le_of_ble_eq_true rfl⟩ dX2_nextHop_37 ⟨Nat.le_refl _, Nat.le_refl _⟩ (fun H locs hP hD hS => ?_)
          refine lv_istore (lv' := [(4, .int (cStep (cMeas v g σ) v v i3)), (3, .int (nI (i3))), (0, .ref (a 0)), (1, .int (nI (v))), (2, .int (nI (g)))]) S.1 S.2.1 dX2_nextHop_40 hl (by decide) rfl (fun ls hl => ?_)
          refine lv_iload S.1 S.2.1 dX2_nextHop_42 (lv_at hl 0 rfl) ?_
          refine lv_if_le (tgt := 67) S.1 S.2.1 dX2_nextHop_44 (by decide) (fun c6 => ?_) (fun c6 => ?_)
          · refine lv_iinc (v := (nI (i3 + 1))) (lv' := [(3, .int (nI (i3 + 1))), (4, .int (cStep (cMeas v g σ) v v i3)), (0, .ref (a 0)), (1, .int (nI (v))), (2, .int (nI (g)))]) S.1 S.2.1 dX2_nextHop_67 hl (k := 1) rfl (nI_add _ 1) (by decide) rfl (fun ls hl => ?_)
            refine lv_goto (tgt := 27) S.1 S.2.1 dX2_nextHop_70 (by decide) ?_
            exact ih3 (i3 + 1)  (by omega) (srch_next he3 (by first | (simp only [fHop, c1, c2, c6, reduceIte, Bool.false_eq_true, eq_self_iff_true, if_true, if_false]; done) | with_reducible rfl)) _ _ hP hD hS _ (lv_sub hl [0, 2, 3, 4] rfl)
          · refine lv_iload S.1 S.2.1 dX2_nextHop_47 (lv_at hl 0 rfl) ?_
            refine lv_aload_n S.1 S.2.1 dX2_nextHop_49 rfl (lv_at hl 2 rfl) ?_
            refine cf_net_costToGoal S hK hP dX2_nextHop_50 ?_
            refine lv_iload_n S.1 S.2.1 dX2_nextHop_53 rfl (lv_at hl 1 rfl) ?_
            refine ca_costToGoal S hK hP (j := i3) (by omega) dX2_nextHop_54 ?_
            refine lv_iadd S.1 S.2.1 dX2_nextHop_55 ?_
            refine lv_aload_n S.1 S.2.1 dX2_nextHop_56 rfl (lv_at hl 2 rfl) ?_
            refine cf_net_costToGoal S hK hP dX2_nextHop_57 ?_
            refine lv_iload_n S.1 S.2.1 dX2_nextHop_60 rfl (lv_at hl 3 rfl) ?_
            refine ca_costToGoal S hK hP (j := v) (by omega) dX2_nextHop_61 ?_
            refine lv_icmp_ne (tgt := 67) S.1 S.2.1 dX2_nextHop_62 (by decide) (fun c7 => ?_) (fun c7 => ?_)
            · refine lv_iinc (v := (nI (i3 + 1))) (lv' := [(3, .int (nI (i3 + 1))), (4, .int (cStep (cMeas v g σ) v v i3)), (0, .ref (a 0)), (1, .int (nI (v))), (2, .int (nI (g)))]) S.1 S.2.1 dX2_nextHop_67 hl (k := 1) rfl (nI_add _ 1) (by decide) rfl (fun ls hl => ?_)
              refine lv_goto (tgt := 27) S.1 S.2.1 dX2_nextHop_70 (by decide) ?_
              exact ih3 (i3 + 1)  (by omega) (srch_next he3 (by first | (simp only [fHop, c1, c2, c6, c7, reduceIte, Bool.false_eq_true, eq_self_iff_true, if_true, if_false]; done) | with_reducible rfl)) _ _ hP hD hS _ (lv_sub hl [0, 2, 3, 4] rfl)
            · refine lv_iload_n S.1 S.2.1 dX2_nextHop_65 rfl (lv_at hl 1 rfl) ?_
              have hit3 : some (nI (i3)) = srch (fHop (cMeas v g σ) v) 8 0 := srch_hit he3 (by first | (simp only [fHop, c1, c2, c6, eq_true c7, reduceIte, Bool.false_eq_true, eq_self_iff_true, if_true, if_false]; done) | with_reducible rfl)
              exact kret_i S hr hlk hP hD hS (by first | (simp only [cHop, Option.getD_some, Option.getD_none, c1, c2, c6, eq_true c7, ← hit3, reduceIte, Bool.false_eq_true, eq_self_iff_true, if_true, if_false]; done) | with_reducible rfl) dX2_nextHop_66
      exact lp3 8 0  (by omega) rfl _ _ hP hD hS _ (lv_sub hl [0, 1, 2, 3] rfl)
    · refine lv_iconst (v := (-1)) S.1 S.2.1 dX2_nextHop_23 (by decide) ?_
      exact kret_i S hr hlk hP hD hS (by first | (simp only [cHop, Option.getD_some, Option.getD_none, c1, c2, reduceIte, Bool.false_eq_true, eq_self_iff_true, if_true, if_false]; done) | with_reducible rfl) dX2_nextHop_24
theorem call_X2_nextHop {p : Program} {l : Launch} {e : Env} {R : Room} {s : State} {m : MethodId} {args : Array Value} {below : List Frame} {meth : Method} {c : Code} {H : Heap} {locs : List Loc} {cells slots : Nat} {Q : State → Prop} {cc : ByteArray} {pc nL : Nat} {ls : Array Slot} {rest : List Value} {D : va_G} {A : Nat → Prop} {w0 : Cond} {X : va_W} {cy : Nat → ClassId} {a : Nat → Nat} {σ : CS} (S : CallFix p m c cc nL s args (w0 :: gw) RX2) (hK : va_K D vwCl (tyA cy) s) (hN : kN nestC s) (hP : va_P D vwCl (X ++ cB cy a σ) H) (hD : va_D A (X ++ cB cy a σ)) (hS : va_S A s.heap H locs) (hA : ∀ q, s.heap.size ≤ q → A q) {v : Nat} {g : Nat} (hv : v < 8) (hg : g < 8) (hsz : ls.size = nL) (hW : (rest.map fun v => v.category).sum ≤ 8) (hR : 3 + 1 ≤ R.frames ∧ 8 + (5 + 11) + 32 * 3 ≤ R.locals) (hdg : decode cc pc = .ok (.invokevirtual 152, 3)) (hfc : cells ≤ R.cells ∧ slots ≤ R.slots)
    (kk : ∀ (H1 : Heap) (locs1 : List Loc), va_P D vwCl (X ++ cB cy a (cMeas v g σ)) H1 → va_D A (X ++ cB cy a (cMeas v g σ)) → va_S A s.heap H1 locs1 → W p l e R s m args below meth c H1 locs1 cells slots Q (F0 m (pc + 3) ls (.int (cHop v g σ) :: rest))) : W p l e R s m args below meth c H locs cells slots Q (F0 m pc ls (.int (nI (g)) :: .int (nI (v)) :: .ref (a 0) :: rest)) :=
  kgo_i (va_runV (As := [.int (nI (v)), .int (nI (g))]) (rest := rest) S (c_X2_nextHop l D cy a X σ v g hv hg H.size) (cwV 2 S.2.2.2.2 (gw_good_1 wm_173 (gw_good_1 wm_175 (gw_good_1 wm_4 (gw_good_1 wm_48 (gw_good_in wm_176))))) rfl rfl rfl (by decide +kernel) hR) ⟨kblind nestC_ok, crecv_net hK hP, kpre nestC_ok hN hK hP hD⟩ rfl rfl hsz rfl (lv_room hW) hdg hfc) hD hS hA kk
set_option maxHeartbeats 400000 in
set_option maxRecDepth 100000 in
theorem c_X2_neighbours (l : Launch) (D : va_G) (cy : Nat → ClassId) (a : Nat → Nat) (X : va_W) (σ : CS) (u : Nat) (hu : u < 8) : MetI l yX2_neighbours cX2_neighbours 4 .int (kRm 2 0 0) D (tyA cy) nestC [.ref (a 0), .int (nI (u))] (X ++ cB cy a σ) (X ++ cB cy a σ) (cNbr σ u) 0 0 := by
  intro sz
  refine kmet (own := RX2) (by decide) rfl (Nat.le_of_ble_eq_true rfl) (fun p e s m args below meth c S hr hlk hK hN hP hD hsz hA hnm ls hl => ?_)
  have hS : va_S (va_A (X ++ cB cy a σ) sz) s.heap s.heap [] := va_S.rf
  have hl : lv_has ls 4 [(0, .ref (a 0)), (1, .int (nI (u)))] := hl
  refine lv_iconst (v := (nI 0)) S.1 S.2.1 dX2_neighbours_0 (by decide) ?_
  refine lv_istore_n (lv' := [(2, .int (nI 0)), (0, .ref (a 0)), (1, .int (nI (u)))]) S.1 S.2.1 dX2_neighbours_1 rfl hl (by decide) rfl (fun ls hl => ?_)
  refine lv_iconst (v := (nI 0)) S.1 S.2.1 dX2_neighbours_2 (by decide) ?_
  refine lv_istore_n (lv' := [(3, .int (nI 0)), (2, .int (nI 0)), (0, .ref (a 0)), (1, .int (nI (u)))]) S.1 S.2.1 dX2_neighbours_3 rfl hl (by decide) rfl (fun ls hl => ?_)
  have lp1 : ∀ (n1 i1 : Nat)  (x1_0 : Int32), i1 + n1 = 8 → itr (fNbr σ u) n1 i1 x1_0 = itr (fNbr σ u) 8 0 (nI 0) → ∀ (H : Heap) (locs : List Loc), va_P D vwCl (X ++ cB cy a σ) H → va_D (va_A (X ++ cB cy a σ) sz) (X ++ cB cy a σ) → va_S (va_A (X ++ cB cy a σ) sz) s.heap H locs → ∀ ls : Array Slot, lv_has ls 4 [(3, .int (nI (i1))), (2, .int (x1_0)), (0, .ref (a 0)), (1, .int (nI (u)))] → W p l e (kRm 2 0 0) s m args below meth c H locs 0 0 (MQ below (kQi D (X ++ cB cy a σ) (X ++ cB cy a σ) (cNbr σ u) sz) args s 0 0 (va_A (X ++ cB cy a σ) sz)) (F0 m 4 ls []) := by
    intro n1
    induction n1 with
    | zero =>
      intro i1 x1_0 hi1 he1 H locs hP hD hS ls hl
      have hi1 : i1 = 8 := by omega
      have he1 : x1_0 = itr (fNbr σ u) 8 0 (nI 0) := he1
      refine lv_iload_n S.1 S.2.1 dX2_neighbours_4 rfl (lv_at hl 0 rfl) ?_
      refine lv_bipush (v := (nI 8)) S.1 S.2.1 dX2_neighbours_5 (by decide) ?_
      refine lv_icmp_ge (tgt := 31) S.1 S.2.1 dX2_neighbours_7 (by decide) (fun _ => ?_) (fun c => absurd (nI_le (by omega) (by omega)) c)
      refine lv_iload_n S.1 S.2.1 dX2_neighbours_31 rfl (lv_at hl 1 rfl) ?_
      exact kret_i S hr hlk hP hD hS (by first | (simp only [cNbr, ← he1, reduceIte, Bool.false_eq_true, eq_self_iff_true, if_true, if_false]; done) | with_reducible rfl) dX2_neighbours_32
    | succ n1 ih1 =>
      intro i1 x1_0 hi1 he1 H locs hP hD hS ls hl
      have hlt1 : i1 < 8 := by omega
      refine lv_iload_n S.1 S.2.1 dX2_neighbours_4 rfl (lv_at hl 0 rfl) ?_
      refine lv_bipush (v := (nI 8)) S.1 S.2.1 dX2_neighbours_5 (by decide) ?_
      refine lv_icmp_ge (tgt := 31) S.1 S.2.1 dX2_neighbours_7 (by decide) (fun c => absurd c (nI_ge (by omega) (by omega))) (fun _ => ?_)
      refine lv_aload_n S.1 S.2.1 dX2_neighbours_10 rfl (lv_at hl 2 rfl) ?_
      refine lv_iload_n S.1 S.2.1 dX2_neighbours_11 rfl (lv_at hl 3 rfl) ?_
      refine lv_iload_n S.1 S.2.1 dX2_neighbours_12 rfl (lv_at hl 0 rfl) ?_
      refine call_X2_carries S hK hN hP hD hS hA (u := u) (v := i1) (by omega) (by omega) hl.1 (Nat.le_of_ble_eq_true rfl) ⟨Nat.le_of_ble_eq_true rfl, Nat.le_of_ble_eq_true rfl⟩ dX2_neighbours_13 ⟨Nat.le_refl _, Nat.le_refl _⟩ (fun H locs hP hD hS => ?_)
      refine kb_eq (tgt := 25) S dX2_neighbours_16 (by decide) (fun c4 => ?_) (fun c4 => ?_)
      · refine lv_iinc (v := (nI (i1 + 1))) (lv' := [(3, .int (nI (i1 + 1))), (2, .int (x1_0)), (0, .ref (a 0)), (1, .int (nI (u)))]) S.1 S.2.1 dX2_neighbours_25 hl (k := 0) rfl (nI_add _ 1) (by decide) rfl (fun ls hl => ?_)
        refine lv_goto (tgt := 4) S.1 S.2.1 dX2_neighbours_28 (by decide) ?_
        exact ih1 (i1 + 1)  ((x1_0)) (by omega) (itr_step he1 (by first | (simp only [fNbr, c4, reduceIte, Bool.false_eq_true, eq_self_iff_true, if_true, if_false]; done) | with_reducible rfl)) _ _ hP hD hS _ (lv_sub hl [0, 1, 2, 3] rfl)
      · refine lv_iload_n S.1 S.2.1 dX2_neighbours_19 rfl (lv_at hl 1 rfl) ?_
        refine lv_iconst (v := (nI 1)) S.1 S.2.1 dX2_neighbours_20 (by decide) ?_
        refine lv_iload_n S.1 S.2.1 dX2_neighbours_21 rfl (lv_at hl 0 rfl) ?_
        refine lv_ishl S.1 S.2.1 dX2_neighbours_22 ?_
        refine lv_ior S.1 S.2.1 dX2_neighbours_23 ?_
        refine lv_istore_n (lv' := [(2, .int ((x1_0) ||| ((nI 1) <<< ((nI (i1)) &&& 31)))), (3, .int (nI (i1))), (0, .ref (a 0)), (1, .int (nI (u)))]) S.1 S.2.1 dX2_neighbours_24 rfl hl (by decide) rfl (fun ls hl => ?_)
        refine lv_iinc (v := (nI (i1 + 1))) (lv' := [(3, .int (nI (i1 + 1))), (2, .int ((x1_0) ||| ((nI 1) <<< ((nI (i1)) &&& 31)))), (0, .ref (a 0)), (1, .int (nI (u)))]) S.1 S.2.1 dX2_neighbours_25 hl (k := 1) rfl (nI_add _ 1) (by decide) rfl (fun ls hl => ?_)
        refine lv_goto (tgt := 4) S.1 S.2.1 dX2_neighbours_28 (by decide) ?_
        exact ih1 (i1 + 1)  (((x1_0) ||| ((nI 1) <<< ((nI (i1)) &&& 31)))) (by omega) (itr_step he1 (by first | (simp only [fNbr, c4, reduceIte, Bool.false_eq_true, eq_self_iff_true, if_true, if_false]; done) | with_reducible rfl)) _ _ hP hD hS _ (lv_sub hl [0, 1, 2, 3] rfl)
  exact lp1 8 0  ((nI 0)) (by omega) rfl _ _ hP hD hS _ (lv_sub hl [0, 1, 2, 3] rfl)
theorem call_X2_neighbours {p : Program} {l : Launch} {e : Env} {R : Room} {s : State} {m : MethodId} {args : Array Value} {below : List Frame} {meth : Method} {c : Code} {H : Heap} {locs : List Loc} {cells slots : Nat} {Q : State → Prop} {cc : ByteArray} {pc nL : Nat} {ls : Array Slot} {rest : List Value} {D : va_G} {A : Nat → Prop} {w0 : Cond} {X : va_W} {cy : Nat → ClassId} {a : Nat → Nat} {σ : CS} (S : CallFix p m c cc nL s args (w0 :: gw) RX2) (hK : va_K D vwCl (tyA cy) s) (hN : kN nestC s) (hP : va_P D vwCl (X ++ cB cy a σ) H) (hD : va_D A (X ++ cB cy a σ)) (hS : va_S A s.heap H locs) (hA : ∀ q, s.heap.size ≤ q → A q) {u : Nat} (hu : u < 8) (hsz : ls.size = nL) (hW : (rest.map fun v => v.category).sum ≤ 8) (hR : 2 + 1 ≤ R.frames ∧ 8 + (4 + 11) + 32 * 2 ≤ R.locals) (hdg : decode cc pc = .ok (.invokevirtual 242, 3)) (hfc : cells ≤ R.cells ∧ slots ≤ R.slots)
    (kk : ∀ (H1 : Heap) (locs1 : List Loc), va_P D vwCl (X ++ cB cy a σ) H1 → va_D A (X ++ cB cy a σ) → va_S A s.heap H1 locs1 → W p l e R s m args below meth c H1 locs1 cells slots Q (F0 m (pc + 3) ls (.int (cNbr σ u) :: rest))) : W p l e R s m args below meth c H locs cells slots Q (F0 m pc ls (.int (nI (u)) :: .ref (a 0) :: rest)) :=
  kgo_i (va_runV (As := [.int (nI (u))]) (rest := rest) S (c_X2_neighbours l D cy a X σ u hu H.size) (cwV 1 S.2.2.2.2 (gw_good_1 wm_193 (gw_good_1 wm_195 (gw_good_1 wm_7 (gw_good_1 wm_48 (gw_good_in wm_196))))) rfl rfl rfl (by decide +kernel) hR) ⟨kblind nestC_ok, crecv_net hK hP, kpre nestC_ok hN hK hP hD⟩ rfl rfl hsz rfl (lv_room hW) hdg hfc) hD hS hA kk
set_option maxHeartbeats 400000 in
set_option maxRecDepth 100000 in
theorem c_X2_joinedWith (l : Launch) (D : va_G) (cy : Nat → ClassId) (a : Nat → Nat) (X : va_W) (σ : CS) (u : Nat) (hu : u < 8) : MetI l yX2_joinedWith cX2_joinedWith 5 .int (kRm 3 0 0) D (tyA cy) nestC [.ref (a 0), .int (nI (u))] (X ++ cB cy a σ) (X ++ cB cy a σ) (cJoin σ u) 0 0 := by
  intro sz
  refine kmet (own := RX2) (by decide) rfl (Nat.le_of_ble_eq_true rfl) (fun p e s m args below meth c S hr hlk hK hN hP hD hsz hA hnm ls hl => ?_)
  have hS : va_S (va_A (X ++ cB cy a σ) sz) s.heap s.heap [] := va_S.rf
  have hl : lv_has ls 5 [(0, .ref (a 0)), (1, .int (nI (u)))] := hl
  refine lv_iconst (v := (nI 1)) S.1 S.2.1 dX2_joinedWith_0 (by decide) ?_
  refine lv_iload_n S.1 S.2.1 dX2_joinedWith_1 rfl (lv_at hl 1 rfl) ?_
  refine lv_ishl S.1 S.2.1 dX2_joinedWith_2 ?_
  refine lv_istore_n (lv' := [(2, .int ((nI 1) <<< ((nI (u)) &&& 31))), (0, .ref (a 0)), (1, .int (nI (u)))]) S.1 S.2.1 dX2_joinedWith_3 rfl hl (by decide) rfl (fun ls hl => ?_)
  refine lv_iconst (v := (nI 1)) S.1 S.2.1 dX2_joinedWith_4 (by decide) ?_
  refine lv_istore_n (lv' := [(3, .int (nI 1)), (2, .int ((nI 1) <<< ((nI (u)) &&& 31))), (0, .ref (a 0)), (1, .int (nI (u)))]) S.1 S.2.1 dX2_joinedWith_5 rfl hl (by decide) rfl (fun ls hl => ?_)
  have lp1 : ∀ (n1 i1 : Nat)  (x1_0 : Int32), i1 + n1 = 8 → itr (fJ1 σ) n1 i1 x1_0 = itr (fJ1 σ) 7 1 ((nI 1) <<< ((nI (u)) &&& 31)) → ∀ (H : Heap) (locs : List Loc), va_P D vwCl (X ++ cB cy a σ) H → va_D (va_A (X ++ cB cy a σ) sz) (X ++ cB cy a σ) → va_S (va_A (X ++ cB cy a σ) sz) s.heap H locs → ∀ ls : Array Slot, lv_has ls 5 [(3, .int (nI (i1))), (2, .int (x1_0)), (0, .ref (a 0)), (1, .int (nI (u)))] → W p l e (kRm 3 0 0) s m args below meth c H locs 0 0 (MQ below (kQi D (X ++ cB cy a σ) (X ++ cB cy a σ) (cJoin σ u) sz) args s 0 0 (va_A (X ++ cB cy a σ) sz)) (F0 m 6 ls []) := by
    intro n1
    induction n1 with
    | zero =>
      intro i1 x1_0 hi1 he1 H locs hP hD hS ls hl
      have hi1 : i1 = 8 := by omega
      have he1 : x1_0 = itr (fJ1 σ) 7 1 ((nI 1) <<< ((nI (u)) &&& 31)) := he1
      refine lv_iload_n S.1 S.2.1 dX2_joinedWith_6 rfl (lv_at hl 0 rfl) ?_
      refine lv_bipush (v := (nI 8)) S.1 S.2.1 dX2_joinedWith_7 (by decide) ?_
      refine lv_icmp_ge (tgt := 53) S.1 S.2.1 dX2_joinedWith_9 (by decide) (fun _ => ?_) (fun c => absurd (nI_le (by omega) (by omega)) c)
      refine lv_iload_n S.1 S.2.1 dX2_joinedWith_53 rfl (lv_at hl 1 rfl) ?_
      exact kret_i S hr hlk hP hD hS (by first | (simp only [cJoin, ← he1, reduceIte, Bool.false_eq_true, eq_self_iff_true, if_true, if_false]; done) | with_reducible rfl) dX2_joinedWith_54
    | succ n1 ih1 =>
      intro i1 x1_0 hi1 he1 H locs hP hD hS ls hl
      have hlt1 : i1 < 8 := by omega
      refine lv_iload_n S.1 S.2.1 dX2_joinedWith_6 rfl (lv_at hl 0 rfl) ?_
      refine lv_bipush (v := (nI 8)) S.1 S.2.1 dX2_joinedWith_7 (by decide) ?_
      refine lv_icmp_ge (tgt := 53) S.1 S.2.1 dX2_joinedWith_9 (by decide) (fun c => absurd c (nI_ge (by omega) (by omega))) (fun _ => ?_)
      refine lv_iconst (v := (nI 0)) S.1 S.2.1 dX2_joinedWith_12 (by decide) ?_
      refine lv_istore (lv' := [(4, .int (nI 0)), (3, .int (nI (i1))), (2, .int (x1_0)), (0, .ref (a 0)), (1, .int (nI (u)))]) S.1 S.2.1 dX2_joinedWith_13 hl (by decide) rfl (fun ls hl => ?_)
      have lp4 : ∀ (n4 i4 : Nat)  (x4_0 : Int32), i4 + n4 = 8 → itr (fJ2 σ) n4 i4 x4_0 = itr (fJ2 σ) 8 0 (x1_0) → ∀ (H : Heap) (locs : List Loc), va_P D vwCl (X ++ cB cy a σ) H → va_D (va_A (X ++ cB cy a σ) sz) (X ++ cB cy a σ) → va_S (va_A (X ++ cB cy a σ) sz) s.heap H locs → ∀ ls : Array Slot, lv_has ls 5 [(4, .int (nI (i4))), (3, .int (nI (i1))), (2, .int (x4_0)), (0, .ref (a 0)), (1, .int (nI (u)))] → W p l e (kRm 3 0 0) s m args below meth c H locs 0 0 (MQ below (kQi D (X ++ cB cy a σ) (X ++ cB cy a σ) (cJoin σ u) sz) args s 0 0 (va_A (X ++ cB cy a σ) sz)) (F0 m 15 ls []) := by
        intro n4
        induction n4 with
        | zero =>
          intro i4 x4_0 hi4 he4 H locs hP hD hS ls hl
          have hi4 : i4 = 8 := by omega
          have he4 : x4_0 = itr (fJ2 σ) 8 0 (x1_0) := he4
          refine lv_iload S.1 S.2.1 dX2_joinedWith_15 (lv_at hl 0 rfl) ?_
          refine lv_bipush (v := (nI 8)) S.1 S.2.1 dX2_joinedWith_17 (by decide) ?_
          refine lv_icmp_ge (tgt := 47) S.1 S.2.1 dX2_joinedWith_19 (by decide) (fun _ => ?_) (fun c => absurd (nI_le (by omega) (by omega)) c)
          refine lv_iinc (v := (nI (i1 + 1))) (lv' := [(3, .int (nI (i1 + 1))), (4, .int (nI (i4))), (2, .int (x4_0)), (0, .ref (a 0)), (1, .int (nI (u)))]) S.1 S.2.1 dX2_joinedWith_47 hl (k := 1) rfl (nI_add _ 1) (by decide) rfl (fun ls hl => ?_)
          refine lv_goto (tgt := 6) S.1 S.2.1 dX2_joinedWith_50 (by decide) ?_
          exact ih1 (i1 + 1)  ((x4_0)) (by omega) (itr_step he1 (by first | (simp only [fJ1, ← he4, reduceIte, Bool.false_eq_true, eq_self_iff_true, if_true, if_false]; done) | with_reducible rfl)) _ _ hP hD hS _ (lv_sub hl [0, 2, 3, 4] rfl)
        | succ n4 ih4 =>
          intro i4 x4_0 hi4 he4 H locs hP hD hS ls hl
          have hlt4 : i4 < 8 := by omega
          refine lv_iload S.1 S.2.1 dX2_joinedWith_15 (lv_at hl 0 rfl) ?_
          refine lv_bipush (v := (nI 8)) S.1 S.2.1 dX2_joinedWith_17 (by decide) ?_
          refine lv_icmp_ge (tgt := 47) S.1 S.2.1 dX2_joinedWith_19 (by decide) (fun c => absurd c (nI_ge (by omega) (by omega))) (fun _ => ?_)
          refine lv_iload_n S.1 S.2.1 dX2_joinedWith_22 rfl (lv_at hl 2 rfl) ?_
          refine lv_iload S.1 S.2.1 dX2_joinedWith_23 (lv_at hl 0 rfl) ?_
          refine lv_ishr S.1 S.2.1 dX2_joinedWith_25 ?_
          refine lv_iconst (v := (nI 1)) S.1 S.2.1 dX2_joinedWith_26 (by decide) ?_
          refine lv_iand S.1 S.2.1 dX2_joinedWith_27 ?_
          refine lv_iconst (v := (nI 1)) S.1 S.2.1 dX2_joinedWith_28 (by decide) ?_
          refine lv_icmp_ne (tgt := 41) S.1 S.2.1 dX2_joinedWith_29 (by decide) (fun c7 => ?_) (fun c7 => ?_)
          · refine lv_iinc (v := (nI (i4 + 1))) (lv' := [(4, .int (nI (i4 + 1))), (3, .int (nI (i1))), (2, .int (x4_0)), (0, .ref (a 0)), (1, .int (nI (u)))]) S.1 S.2.1 dX2_joinedWith_41 hl (k := 0) rfl (nI_add _ 1) (by decide) rfl (fun ls hl => ?_)
            refine lv_goto (tgt := 15) S.1 S.2.1 dX2_joinedWith_44 (by decide) ?_
            exact ih4 (i4 + 1)  ((x4_0)) (by omega) (itr_step he4 (by first | (simp only [fJ2, c7, reduceIte, Bool.false_eq_true, eq_self_iff_true, if_true, if_false]; done) | with_reducible rfl)) _ _ hP hD hS _ (lv_sub hl [0, 1, 2, 3, 4] rfl)
          · refine lv_iload_n S.1 S.2.1 dX2_joinedWith_32 rfl (lv_at hl 2 rfl) ?_
            refine lv_aload_n S.1 S.2.1 dX2_joinedWith_33 rfl (lv_at hl 3 rfl) ?_
            refine lv_iload S.1 S.2.1 dX2_joinedWith_34 (lv_at hl 0 rfl) ?_
            refine call_X2_neighbours S hK hN hP hD hS hA (u := i4) (by omega) hl.1 (Nat.le_of_ble_eq_true rfl) ⟨Nat.le_of_ble_eq_true rfl, Nat.le_of_ble_eq_true rfl⟩ dX2_joinedWith_36 ⟨Nat.le_refl _, Nat.le_refl _⟩ (fun H locs hP hD hS => ?_)
            refine lv_ior S.1 S.2.1 dX2_joinedWith_39 ?_
            refine lv_istore_n (lv' := [(2, .int ((x4_0) ||| (cNbr σ i4))), (4, .int (nI (i4))), (3, .int (nI (i1))), (0, .ref (a 0)), (1, .int (nI (u)))]) S.1 S.2.1 dX2_joinedWith_40 rfl hl (by decide) rfl (fun ls hl => ?_)
            refine lv_iinc (v := (nI (i4 + 1))) (lv' := [(4, .int (nI (i4 + 1))), (2, .int ((x4_0) ||| (cNbr σ i4))), (3, .int (nI (i1))), (0, .ref (a 0)), (1, .int (nI (u)))]) S.1 S.2.1 dX2_joinedWith_41 hl (k := 1) rfl (nI_add _ 1) (by decide) rfl (fun ls hl => ?_)
            refine lv_goto (tgt := 15) S.1 S.2.1 dX2_joinedWith_44 (by decide) ?_
            exact ih4 (i4 + 1)  (((x4_0) ||| (cNbr σ i4))) (by omega) (itr_step he4 (by first | (simp only [fJ2, eq_true c7, reduceIte, Bool.false_eq_true, eq_self_iff_true, if_true, if_false]; done) | with_reducible rfl)) _ _ hP hD hS _ (lv_sub hl [0, 2, 1, 3, 4] rfl)
      exact lp4 8 0  ((x1_0)) (by omega) rfl _ _ hP hD hS _ (lv_sub hl [0, 1, 2, 3, 4] rfl)
  exact lp1 7 1  (((nI 1) <<< ((nI (u)) &&& 31))) (by omega) rfl _ _ hP hD hS _ (lv_sub hl [0, 1, 2, 3] rfl)
theorem call_X2_joinedWith {p : Program} {l : Launch} {e : Env} {R : Room} {s : State} {m : MethodId} {args : Array Value} {below : List Frame} {meth : Method} {c : Code} {H : Heap} {locs : List Loc} {cells slots : Nat} {Q : State → Prop} {cc : ByteArray} {pc nL : Nat} {ls : Array Slot} {rest : List Value} {D : va_G} {A : Nat → Prop} {w0 : Cond} {X : va_W} {cy : Nat → ClassId} {a : Nat → Nat} {σ : CS} (S : CallFix p m c cc nL s args (w0 :: gw) RX2) (hK : va_K D vwCl (tyA cy) s) (hN : kN nestC s) (hP : va_P D vwCl (X ++ cB cy a σ) H) (hD : va_D A (X ++ cB cy a σ)) (hS : va_S A s.heap H locs) (hA : ∀ q, s.heap.size ≤ q → A q) {u : Nat} (hu : u < 8) (hsz : ls.size = nL) (hW : (rest.map fun v => v.category).sum ≤ 8) (hR : 3 + 1 ≤ R.frames ∧ 8 + (5 + 11) + 32 * 3 ≤ R.locals) (hdg : decode cc pc = .ok (.invokevirtual 239, 3)) (hfc : cells ≤ R.cells ∧ slots ≤ R.slots)
    (kk : ∀ (H1 : Heap) (locs1 : List Loc), va_P D vwCl (X ++ cB cy a σ) H1 → va_D A (X ++ cB cy a σ) → va_S A s.heap H1 locs1 → W p l e R s m args below meth c H1 locs1 cells slots Q (F0 m (pc + 3) ls (.int (cJoin σ u) :: rest))) : W p l e R s m args below meth c H locs cells slots Q (F0 m pc ls (.int (nI (u)) :: .ref (a 0) :: rest)) :=
  kgo_i (va_runV (As := [.int (nI (u))]) (rest := rest) S (c_X2_joinedWith l D cy a X σ u hu H.size) (cwV 1 S.2.2.2.2 (gw_good_1 wm_189 (gw_good_1 wm_191 (gw_good_1 wm_6 (gw_good_1 wm_48 (gw_good_in wm_192))))) rfl rfl rfl (by decide +kernel) hR) ⟨kblind nestC_ok, crecv_net hK hP, kpre nestC_ok hN hK hP hD⟩ rfl rfl hsz rfl (lv_room hW) hdg hfc) hD hS hA kk
set_option maxHeartbeats 400000 in
set_option maxRecDepth 100000 in
theorem c_X2_agreeOn (l : Launch) (D : va_G) (cy : Nat → ClassId) (a : Nat → Nat) (X : va_W) (σ : CS) (o : Nat) (ho : o < 8) : MetI l yX2_agreeOn cX2_agreeOn 5 .boolean (kRm 4 0 0) D (tyA cy) nestC [.ref (a 0), .int (nI (o))] (X ++ cB cy a σ) (X ++ cB cy a σ) (b2i (cAgr σ o)) 0 0 := by
  intro sz
  refine kmet (own := RX2) (by decide) rfl (Nat.le_of_ble_eq_true rfl) (fun p e s m args below meth c S hr hlk hK hN hP hD hsz hA hnm ls hl => ?_)
  have hS : va_S (va_A (X ++ cB cy a σ) sz) s.heap s.heap [] := va_S.rf
  have hl : lv_has ls 5 [(0, .ref (a 0)), (1, .int (nI (o)))] := hl
  refine lv_aload_n S.1 S.2.1 dX2_agreeOn_0 rfl (lv_at hl 0 rfl) ?_
  refine lv_iload_n S.1 S.2.1 dX2_agreeOn_1 rfl (lv_at hl 1 rfl) ?_
  refine call_X2_joinedWith S hK hN hP hD hS hA (u := o) (by omega) hl.1 (Nat.le_of_ble_eq_true rfl) ⟨Nat.le_of_ble_eq_true rfl, Nat.le_of_ble_eq_true rfl⟩ dX2_agreeOn_2 ⟨Nat.le_refl _, Nat.le_refl _⟩ (fun H locs hP hD hS => ?_)
  refine lv_istore_n (lv' := [(2, .int (cJoin σ o)), (0, .ref (a 0)), (1, .int (nI (o)))]) S.1 S.2.1 dX2_agreeOn_5 rfl hl (by decide) rfl (fun ls hl => ?_)
  refine lv_iconst (v := (nI 0)) S.1 S.2.1 dX2_agreeOn_6 (by decide) ?_
  refine lv_istore_n (lv' := [(3, .int (nI 0)), (2, .int (cJoin σ o)), (0, .ref (a 0)), (1, .int (nI (o)))]) S.1 S.2.1 dX2_agreeOn_7 rfl hl (by decide) rfl (fun ls hl => ?_)
  have lp1 : ∀ (n1 i1 : Nat) , i1 + n1 = 8 → srch (fAgr σ o) n1 i1 = srch (fAgr σ o) 8 0 → ∀ (H : Heap) (locs : List Loc), va_P D vwCl (X ++ cB cy a σ) H → va_D (va_A (X ++ cB cy a σ) sz) (X ++ cB cy a σ) → va_S (va_A (X ++ cB cy a σ) sz) s.heap H locs → ∀ ls : Array Slot, lv_has ls 5 [(3, .int (nI (i1))), (2, .int (cJoin σ o)), (0, .ref (a 0)), (1, .int (nI (o)))] → W p l e (kRm 4 0 0) s m args below meth c H locs 0 0 (MQ below (kQi D (X ++ cB cy a σ) (X ++ cB cy a σ) (b2i (cAgr σ o)) sz) args s 0 0 (va_A (X ++ cB cy a σ) sz)) (F0 m 8 ls []) := by
    intro n1
    induction n1 with
    | zero =>
      intro i1 hi1 he1 H locs hP hD hS ls hl
      have hi1 : i1 = 8 := by omega
      have he1 : none = srch (fAgr σ o) 8 0 := he1
      refine lv_iload_n S.1 S.2.1 dX2_agreeOn_8 rfl (lv_at hl 0 rfl) ?_
      refine lv_bipush (v := (nI 8)) S.1 S.2.1 dX2_agreeOn_9 (by decide) ?_
      refine lv_icmp_ge (tgt := 72) S.1 S.2.1 dX2_agreeOn_11 (by decide) (fun _ => ?_) (fun c => absurd (nI_le (by omega) (by omega)) c)
      refine lv_iconst (v := (nI 1)) S.1 S.2.1 dX2_agreeOn_72 (by decide) ?_
      exact kret_z S hr hlk hP hD hS (by first | rfl | exact b2i_nar _) (by rw [show cAgr σ o = true from (by first | (simp only [cAgr, Option.isNone_some, Option.isNone_none, ← he1, reduceIte, Bool.false_eq_true, eq_self_iff_true, if_true, if_false]; done) | with_reducible rfl)]; decide) dX2_agreeOn_73
    | succ n1 ih1 =>
      intro i1 hi1 he1 H locs hP hD hS ls hl
      have hlt1 : i1 < 8 := by omega
      refine lv_iload_n S.1 S.2.1 dX2_agreeOn_8 rfl (lv_at hl 0 rfl) ?_
      refine lv_bipush (v := (nI 8)) S.1 S.2.1 dX2_agreeOn_9 (by decide) ?_
      refine lv_icmp_ge (tgt := 72) S.1 S.2.1 dX2_agreeOn_11 (by decide) (fun c => absurd c (nI_ge (by omega) (by omega))) (fun _ => ?_)
      refine lv_iload_n S.1 S.2.1 dX2_agreeOn_14 rfl (lv_at hl 1 rfl) ?_
      refine lv_iload_n S.1 S.2.1 dX2_agreeOn_15 rfl (lv_at hl 0 rfl) ?_
      refine lv_ishr S.1 S.2.1 dX2_agreeOn_16 ?_
      refine lv_iconst (v := (nI 1)) S.1 S.2.1 dX2_agreeOn_17 (by decide) ?_
      refine lv_iand S.1 S.2.1 dX2_agreeOn_18 ?_
      refine lv_iconst (v := (nI 1)) S.1 S.2.1 dX2_agreeOn_19 (by decide) ?_
      refine lv_icmp_ne (tgt := 27) S.1 S.2.1 dX2_agreeOn_20 (by decide) (fun c4 => ?_) (fun c4 => ?_)
      · refine lv_iconst (v := (nI 0)) S.1 S.2.1 dX2_agreeOn_27 (by decide) ?_
        refine lv_istore (lv' := [(4, .int (nI 0)), (3, .int (nI (i1))), (2, .int (cJoin σ o)), (0, .ref (a 0)), (1, .int (nI (o)))]) S.1 S.2.1 dX2_agreeOn_28 hl (by decide) rfl (fun ls hl => ?_)
        refine lv_iload S.1 S.2.1 dX2_agreeOn_30 (lv_at hl 0 rfl) ?_
        refine lv_if_eq (tgt := 66) S.1 S.2.1 dX2_agreeOn_32 (by decide) (fun _ => ?_) (fun c5 => absurd (by decide) c5)
        refine lv_iinc (v := (nI (i1 + 1))) (lv' := [(3, .int (nI (i1 + 1))), (4, .int (nI 0)), (2, .int (cJoin σ o)), (0, .ref (a 0)), (1, .int (nI (o)))]) S.1 S.2.1 dX2_agreeOn_66 hl (k := 1) rfl (nI_add _ 1) (by decide) rfl (fun ls hl => ?_)
        refine lv_goto (tgt := 8) S.1 S.2.1 dX2_agreeOn_69 (by decide) ?_
        exact ih1 (i1 + 1)  (by omega) (srch_next he1 (by first | (simp only [fAgr, c4, reduceIte, Bool.false_eq_true, eq_self_iff_true, if_true, if_false]; done) | with_reducible rfl)) _ _ hP hD hS _ (lv_sub hl [0, 2, 3, 4] rfl)
      · refine lv_iconst (v := (nI 1)) S.1 S.2.1 dX2_agreeOn_23 (by decide) ?_
        refine lv_goto (tgt := 28) S.1 S.2.1 dX2_agreeOn_24 (by decide) ?_
        refine lv_istore (lv' := [(4, .int (nI 1)), (3, .int (nI (i1))), (2, .int (cJoin σ o)), (0, .ref (a 0)), (1, .int (nI (o)))]) S.1 S.2.1 dX2_agreeOn_28 hl (by decide) rfl (fun ls hl => ?_)
        refine lv_iload S.1 S.2.1 dX2_agreeOn_30 (lv_at hl 0 rfl) ?_
        refine lv_if_eq (tgt := 66) S.1 S.2.1 dX2_agreeOn_32 (by decide) (fun c6 => absurd c6 (by decide)) (fun _ => ?_)
        refine lv_aload_n S.1 S.2.1 dX2_agreeOn_35 rfl (lv_at hl 3 rfl) ?_
        refine cf_net_known S hK hP dX2_agreeOn_36 ?_
        refine cn_known_number S hK hN hP dX2_agreeOn_39 ?_
        refine lv_iload_n S.1 S.2.1 dX2_agreeOn_42 rfl (lv_at hl 1 rfl) ?_
        refine lv_iload_n S.1 S.2.1 dX2_agreeOn_43 rfl (lv_at hl 4 rfl) ?_
        refine call_X2_knownRow S hK hN hP hD hS hA (u := i1) (v := o)  hl.1 (Nat.le_of_ble_eq_true rfl) ⟨Nat.le_of_ble_eq_true rfl, Nat.le_of_ble_eq_true rfl⟩ dX2_agreeOn_44 ⟨Nat.le_refl _, Nat.le_refl _⟩ (fun H locs hP hD hS => ?_)
        refine ca_knNumber S hK hP (j := (i1 * 8 + o)) (by omega) dX2_agreeOn_47 ?_
        refine lv_aload_n S.1 S.2.1 dX2_agreeOn_48 rfl (lv_at hl 3 rfl) ?_
        refine cf_net_known S hK hP dX2_agreeOn_49 ?_
        refine cn_known_number S hK hN hP dX2_agreeOn_52 ?_
        refine lv_iload_n S.1 S.2.1 dX2_agreeOn_55 rfl (lv_at hl 4 rfl) ?_
        refine lv_iload_n S.1 S.2.1 dX2_agreeOn_56 rfl (lv_at hl 4 rfl) ?_
        refine call_X2_knownRow S hK hN hP hD hS hA (u := o) (v := o)  hl.1 (Nat.le_of_ble_eq_true rfl) ⟨Nat.le_of_ble_eq_true rfl, Nat.le_of_ble_eq_true rfl⟩ dX2_agreeOn_57 ⟨Nat.le_refl _, Nat.le_refl _⟩ (fun H locs hP hD hS => ?_)
        refine ca_knNumber S hK hP (j := (o * 8 + o)) (by omega) dX2_agreeOn_60 ?_
        refine lv_icmp_eq (tgt := 66) S.1 S.2.1 dX2_agreeOn_61 (by decide) (fun c7 => ?_) (fun c7 => ?_)
        · refine lv_iinc (v := (nI (i1 + 1))) (lv' := [(3, .int (nI (i1 + 1))), (4, .int (nI 1)), (2, .int (cJoin σ o)), (0, .ref (a 0)), (1, .int (nI (o)))]) S.1 S.2.1 dX2_agreeOn_66 hl (k := 1) rfl (nI_add _ 1) (by decide) rfl (fun ls hl => ?_)
          refine lv_goto (tgt := 8) S.1 S.2.1 dX2_agreeOn_69 (by decide) ?_
          exact ih1 (i1 + 1)  (by omega) (srch_next he1 (by first | (simp only [fAgr, eq_true c4, eq_true c7, reduceIte, Bool.false_eq_true, eq_self_iff_true, if_true, if_false]; done) | with_reducible rfl)) _ _ hP hD hS _ (lv_sub hl [0, 2, 3, 4] rfl)
        · refine lv_iconst (v := (nI 0)) S.1 S.2.1 dX2_agreeOn_64 (by decide) ?_
          have hit1 : some (nI 0) = srch (fAgr σ o) 8 0 := srch_hit he1 (by first | (simp only [fAgr, eq_true c4, c7, reduceIte, Bool.false_eq_true, eq_self_iff_true, if_true, if_false]; done) | with_reducible rfl)
          exact kret_z S hr hlk hP hD hS (by first | rfl | exact b2i_nar _) (by rw [show cAgr σ o = false from (by first | (simp only [cAgr, Option.isNone_some, Option.isNone_none, eq_true c4, c7, ← hit1, reduceIte, Bool.false_eq_true, eq_self_iff_true, if_true, if_false]; done) | with_reducible rfl)]; decide) dX2_agreeOn_65
  exact lp1 8 0  (by omega) rfl _ _ hP hD hS _ (lv_sub hl [0, 1, 2, 3] rfl)
theorem call_X2_agreeOn {p : Program} {l : Launch} {e : Env} {R : Room} {s : State} {m : MethodId} {args : Array Value} {below : List Frame} {meth : Method} {c : Code} {H : Heap} {locs : List Loc} {cells slots : Nat} {Q : State → Prop} {cc : ByteArray} {pc nL : Nat} {ls : Array Slot} {rest : List Value} {D : va_G} {A : Nat → Prop} {w0 : Cond} {X : va_W} {cy : Nat → ClassId} {a : Nat → Nat} {σ : CS} (S : CallFix p m c cc nL s args (w0 :: gw) RX2) (hK : va_K D vwCl (tyA cy) s) (hN : kN nestC s) (hP : va_P D vwCl (X ++ cB cy a σ) H) (hD : va_D A (X ++ cB cy a σ)) (hS : va_S A s.heap H locs) (hA : ∀ q, s.heap.size ≤ q → A q) {o : Nat} (ho : o < 8) (hsz : ls.size = nL) (hW : (rest.map fun v => v.category).sum ≤ 8) (hR : 4 + 1 ≤ R.frames ∧ 8 + (5 + 11) + 32 * 4 ≤ R.locals) (hdg : decode cc pc = .ok (.invokevirtual 180, 3)) (hfc : cells ≤ R.cells ∧ slots ≤ R.slots)
    (kk : ∀ (H1 : Heap) (locs1 : List Loc), va_P D vwCl (X ++ cB cy a σ) H1 → va_D A (X ++ cB cy a σ) → va_S A s.heap H1 locs1 → W p l e R s m args below meth c H1 locs1 cells slots Q (F0 m (pc + 3) ls (.int (b2i (cAgr σ o)) :: rest))) : W p l e R s m args below meth c H locs cells slots Q (F0 m pc ls (.int (nI (o)) :: .ref (a 0) :: rest)) :=
  kgo_i (va_runV (As := [.int (nI (o))]) (rest := rest) S (c_X2_agreeOn l D cy a X σ o ho H.size) (cwV 1 S.2.2.2.2 (gw_good_1 wm_185 (gw_good_1 wm_187 (gw_good_1 wm_5 (gw_good_1 wm_48 (gw_good_in wm_188))))) rfl rfl rfl (by decide +kernel) hR) ⟨kblind nestC_ok, crecv_net hK hP, kpre nestC_ok hN hK hP hD⟩ rfl rfl hsz rfl (lv_room hW) hdg hfc) hD hS hA kk
set_option maxHeartbeats 400000 in
set_option maxRecDepth 100000 in
theorem c_X2_settled (l : Launch) (D : va_G) (cy : Nat → ClassId) (a : Nat → Nat) (X : va_W) (σ : CS)   : MetI l yX2_settled cX2_settled 2 .boolean (kRm 5 0 0) D (tyA cy) nestC [.ref (a 0)] (X ++ cB cy a σ) (X ++ cB cy a σ) (b2i (cSettled σ)) 0 0 := by
  intro sz
  refine kmet (own := RX2) (by decide) rfl (Nat.le_of_ble_eq_true rfl) (fun p e s m args below meth c S hr hlk hK hN hP hD hsz hA hnm ls hl => ?_)
  have hS : va_S (va_A (X ++ cB cy a σ) sz) s.heap s.heap [] := va_S.rf
  have hl : lv_has ls 2 [(0, .ref (a 0))] := hl
  refine lv_aload_n S.1 S.2.1 dX2_settled_0 rfl (lv_at hl 0 rfl) ?_
  refine cf_net_inFlight S hK hP dX2_settled_1 ?_
  refine cn_inFlight_count S hK hN hP dX2_settled_4 ?_
  refine lv_if_le (tgt := 12) S.1 S.2.1 dX2_settled_7 (by decide) (fun c1 => ?_) (fun c1 => ?_)
  · refine lv_iconst (v := (nI 0)) S.1 S.2.1 dX2_settled_12 (by decide) ?_
    refine lv_istore_n (lv' := [(1, .int (nI 0)), (0, .ref (a 0))]) S.1 S.2.1 dX2_settled_13 rfl hl (by decide) rfl (fun ls hl => ?_)
    have lp2 : ∀ (n2 i2 : Nat) , i2 + n2 = 8 → srch (fSet σ) n2 i2 = srch (fSet σ) 8 0 → ∀ (H : Heap) (locs : List Loc), va_P D vwCl (X ++ cB cy a σ) H → va_D (va_A (X ++ cB cy a σ) sz) (X ++ cB cy a σ) → va_S (va_A (X ++ cB cy a σ) sz) s.heap H locs → ∀ ls : Array Slot, lv_has ls 2 [(1, .int (nI (i2))), (0, .ref (a 0))] → W p l e (kRm 5 0 0) s m args below meth c H locs 0 0 (MQ below (kQi D (X ++ cB cy a σ) (X ++ cB cy a σ) (b2i (cSettled σ)) sz) args s 0 0 (va_A (X ++ cB cy a σ) sz)) (F0 m 14 ls []) := by
      intro n2
      induction n2 with
      | zero =>
        intro i2 hi2 he2 H locs hP hD hS ls hl
        have hi2 : i2 = 8 := by omega
        have he2 : none = srch (fSet σ) 8 0 := he2
        refine lv_iload_n S.1 S.2.1 dX2_settled_14 rfl (lv_at hl 0 rfl) ?_
        refine lv_bipush (v := (nI 8)) S.1 S.2.1 dX2_settled_15 (by decide) ?_
        refine lv_icmp_ge (tgt := 45) S.1 S.2.1 dX2_settled_17 (by decide) (fun _ => ?_) (fun c => absurd (nI_le (by omega) (by omega)) c)
        refine lv_iconst (v := (nI 1)) S.1 S.2.1 dX2_settled_45 (by decide) ?_
        exact kret_z S hr hlk hP hD hS (by first | rfl | exact b2i_nar _) (by rw [show cSettled σ = true from (by first | (simp only [cSettled, Option.isNone_some, Option.isNone_none, c1, ← he2, reduceIte, Bool.false_eq_true, eq_self_iff_true, if_true, if_false]; done) | with_reducible rfl)]; decide) dX2_settled_46
      | succ n2 ih2 =>
        intro i2 hi2 he2 H locs hP hD hS ls hl
        have hlt2 : i2 < 8 := by omega
        refine lv_iload_n S.1 S.2.1 dX2_settled_14 rfl (lv_at hl 0 rfl) ?_
        refine lv_bipush (v := (nI 8)) S.1 S.2.1 dX2_settled_15 (by decide) ?_
        refine lv_icmp_ge (tgt := 45) S.1 S.2.1 dX2_settled_17 (by decide) (fun c => absurd c (nI_ge (by omega) (by omega))) (fun _ => ?_)
        refine lv_aload_n S.1 S.2.1 dX2_settled_20 rfl (lv_at hl 1 rfl) ?_
        refine cf_net_there S hK hP dX2_settled_21 ?_
        refine lv_iload_n S.1 S.2.1 dX2_settled_24 rfl (lv_at hl 0 rfl) ?_
        refine ca_there S hK hP (j := i2) (by omega) dX2_settled_25 ?_
        refine lv_if_eq (tgt := 39) S.1 S.2.1 dX2_settled_26 (by decide) (fun c5 => ?_) (fun c5 => ?_)
        · refine lv_iinc (v := (nI (i2 + 1))) (lv' := [(1, .int (nI (i2 + 1))), (0, .ref (a 0))]) S.1 S.2.1 dX2_settled_39 hl (k := 0) rfl (nI_add _ 1) (by decide) rfl (fun ls hl => ?_)
          refine lv_goto (tgt := 14) S.1 S.2.1 dX2_settled_42 (by decide) ?_
          exact ih2 (i2 + 1)  (by omega) (srch_next he2 (by first | (simp only [fSet, c1, eq_true c5, reduceIte, Bool.false_eq_true, eq_self_iff_true, if_true, if_false]; done) | with_reducible rfl)) _ _ hP hD hS _ (lv_sub hl [0, 1] rfl)
        · refine lv_aload_n S.1 S.2.1 dX2_settled_29 rfl (lv_at hl 1 rfl) ?_
          refine lv_iload_n S.1 S.2.1 dX2_settled_30 rfl (lv_at hl 0 rfl) ?_
          refine call_X2_agreeOn S hK hN hP hD hS hA (o := i2) (by omega) hl.1 (Nat.le_of_ble_eq_true rfl) ⟨Nat.le_of_ble_eq_true rfl, Nat.le_of_ble_eq_true rfl⟩ dX2_settled_31 ⟨Nat.le_refl _, Nat.le_refl _⟩ (fun H locs hP hD hS => ?_)
          refine kb_ne (tgt := 39) S dX2_settled_34 (by decide) (fun c6 => ?_) (fun c6 => ?_)
          · refine lv_iinc (v := (nI (i2 + 1))) (lv' := [(1, .int (nI (i2 + 1))), (0, .ref (a 0))]) S.1 S.2.1 dX2_settled_39 hl (k := 0) rfl (nI_add _ 1) (by decide) rfl (fun ls hl => ?_)
            refine lv_goto (tgt := 14) S.1 S.2.1 dX2_settled_42 (by decide) ?_
            exact ih2 (i2 + 1)  (by omega) (srch_next he2 (by first | (simp only [fSet, c1, c5, c6, reduceIte, Bool.false_eq_true, eq_self_iff_true, if_true, if_false]; done) | with_reducible rfl)) _ _ hP hD hS _ (lv_sub hl [0, 1] rfl)
          · refine lv_iconst (v := (nI 0)) S.1 S.2.1 dX2_settled_37 (by decide) ?_
            have hit2 : some (nI 0) = srch (fSet σ) 8 0 := srch_hit he2 (by first | (simp only [fSet, c1, c5, c6, reduceIte, Bool.false_eq_true, eq_self_iff_true, if_true, if_false]; done) | with_reducible rfl)
            exact kret_z S hr hlk hP hD hS (by first | rfl | exact b2i_nar _) (by rw [show cSettled σ = false from (by first | (simp only [cSettled, Option.isNone_some, Option.isNone_none, c1, c5, c6, ← hit2, reduceIte, Bool.false_eq_true, eq_self_iff_true, if_true, if_false]; done) | with_reducible rfl)]; decide) dX2_settled_38
    exact lp2 8 0  (by omega) rfl _ _ hP hD hS _ (lv_sub hl [0, 1] rfl)
  · refine lv_iconst (v := (nI 0)) S.1 S.2.1 dX2_settled_10 (by decide) ?_
    exact kret_z S hr hlk hP hD hS (by first | rfl | exact b2i_nar _) (by rw [show cSettled σ = false from (by first | (simp only [cSettled, Option.isNone_some, Option.isNone_none, c1, reduceIte, Bool.false_eq_true, eq_self_iff_true, if_true, if_false]; done) | with_reducible rfl)]; decide) dX2_settled_11
set_option maxHeartbeats 400000 in
set_option maxRecDepth 100000 in
theorem c_X2_flying (l : Launch) (D : va_G) (cy : Nat → ClassId) (a : Nat → Nat) (X : va_W) (σ : CS)   : MetI l yX2_flying cX2_flying 1 .int (kRm 0 0 0) D (tyA cy) nestC [.ref (a 0)] (X ++ cB cy a σ) (X ++ cB cy a σ) (σ.1 0 4) 0 0 := by
  intro sz
  refine kmet (own := RX2) (by decide) rfl (Nat.le_of_ble_eq_true rfl) (fun p e s m args below meth c S hr hlk hK hN hP hD hsz hA hnm ls hl => ?_)
  have hS : va_S (va_A (X ++ cB cy a σ) sz) s.heap s.heap [] := va_S.rf
  have hl : lv_has ls 1 [(0, .ref (a 0))] := hl
  refine lv_aload_n S.1 S.2.1 dX2_flying_0 rfl (lv_at hl 0 rfl) ?_
  refine cf_net_inFlight S hK hP dX2_flying_1 ?_
  refine cn_inFlight_count S hK hN hP dX2_flying_4 ?_
  exact kret_i S hr hlk hP hD hS (by rfl) dX2_flying_7
set_option maxHeartbeats 400000 in
set_option maxRecDepth 100000 in
theorem c_X2_distance (l : Launch) (D : va_G) (cy : Nat → ClassId) (a : Nat → Nat) (X : va_W) (σ : CS) (x : Int32) (y : Int32)  : MetI l yX2_distance cX2_distance 3 .int (kRm 3 0 0) D (tyA cy) nestC [.ref (a 0), .int (x), .int (y)] (X ++ cB cy a σ) (X ++ cB cy a (cDistS x y σ)) (cDist x y σ) 0 0 := by
  intro sz
  refine kmet (own := RX2) (by decide) rfl (Nat.le_of_ble_eq_true rfl) (fun p e s m args below meth c S hr hlk hK hN hP hD hsz hA hnm ls hl => ?_)
  have hS : va_S (va_A (X ++ cB cy a σ) sz) s.heap s.heap [] := va_S.rf
  have hl : lv_has ls 3 [(0, .ref (a 0)), (1, .int (x)), (2, .int (y))] := hl
  refine lv_iload_n S.1 S.2.1 dX2_distance_0 rfl (lv_at hl 1 rfl) ?_
  refine call_X2_isNode S hK hN hP hD hS hA (x := x)  hl.1 (Nat.le_of_ble_eq_true rfl) ⟨Nat.le_of_ble_eq_true rfl, Nat.le_of_ble_eq_true rfl⟩ dX2_distance_1 ⟨Nat.le_refl _, Nat.le_refl _⟩ (fun H locs hP hD hS => ?_)
  refine kb_eq (tgt := 23) S dX2_distance_4 (by decide) (fun c1 => ?_) (fun c1 => ?_)
  · refine lv_iconst (v := (-1)) S.1 S.2.1 dX2_distance_23 (by decide) ?_
    have e9 : cDistS x y σ = σ := by first | (simp only [cDistS, c1, reduceIte, Bool.false_eq_true, eq_self_iff_true, if_true, if_false]; done) | with_reducible rfl
    rw [e9]
    exact kret_i S hr hlk hP hD hS (by first | (simp only [cDist, c1, reduceIte, Bool.false_eq_true, eq_self_iff_true, if_true, if_false]; done) | with_reducible rfl) dX2_distance_24
  · obtain ⟨x1, hx1, rfl⟩ := isN_of c1
    refine lv_iload_n S.1 S.2.1 dX2_distance_7 rfl (lv_at hl 2 rfl) ?_
    refine call_X2_isNode S hK hN hP hD hS hA (x := y)  hl.1 (Nat.le_of_ble_eq_true rfl) ⟨Nat.le_of_ble_eq_true rfl, Nat.le_of_ble_eq_true rfl⟩ dX2_distance_8 ⟨Nat.le_refl _, Nat.le_refl _⟩ (fun H locs hP hD hS => ?_)
    refine kb_eq (tgt := 23) S dX2_distance_11 (by decide) (fun c2 => ?_) (fun c2 => ?_)
    · refine lv_iconst (v := (-1)) S.1 S.2.1 dX2_distance_23 (by decide) ?_
      have e9 : cDistS (nI x1) y σ = σ := by first | (simp only [cDistS, c1, cl8 hx1, c2, reduceIte, Bool.false_eq_true, eq_self_iff_true, if_true, if_false]; done) | with_reducible rfl
      rw [e9]
      exact kret_i S hr hlk hP hD hS (by first | (simp only [cDist, c1, cl8 hx1, c2, reduceIte, Bool.false_eq_true, eq_self_iff_true, if_true, if_false]; done) | with_reducible rfl) dX2_distance_24
    · obtain ⟨y1, hy1, rfl⟩ := isN_of c2
      refine lv_aload_n S.1 S.2.1 dX2_distance_14 rfl (lv_at hl 0 rfl) ?_
      refine cf_net_there S hK hP dX2_distance_15 ?_
      refine lv_iload_n S.1 S.2.1 dX2_distance_18 rfl (lv_at hl 1 rfl) ?_
      refine ca_there S hK hP (j := x1) (by omega) dX2_distance_19 ?_
      refine lv_if_ne (tgt := 25) S.1 S.2.1 dX2_distance_20 (by decide) (fun c3 => ?_) (fun c3 => ?_)
      · refine lv_aload_n S.1 S.2.1 dX2_distance_25 rfl (lv_at hl 0 rfl) ?_
        refine lv_iload_n S.1 S.2.1 dX2_distance_26 rfl (lv_at hl 1 rfl) ?_
        refine lv_iload_n S.1 S.2.1 dX2_distance_27 rfl (lv_at hl 2 rfl) ?_
        refine call_X2_measureWays S hK hN hP hD hS hA (v := x1) (g := y1) (by omega) (by omega) hl.1 (Nat.le_of_ble_eq_true rfl) ⟨Nat.le_of_ble_eq_true rfl, Nat.le_of_ble_eq_true rfl⟩ dX2_distance_28 ⟨Nat.le_refl _, Nat.le_refl _⟩ (fun H locs hP hD hS => ?_)
        refine lv_aload_n S.1 S.2.1 dX2_distance_31 rfl (lv_at hl 0 rfl) ?_
        refine cf_net_costToGoal S hK hP dX2_distance_32 ?_
        refine lv_iload_n S.1 S.2.1 dX2_distance_35 rfl (lv_at hl 1 rfl) ?_
        refine ca_costToGoal S hK hP (j := x1) (by omega) dX2_distance_36 ?_
        refine lv_sipush (v := (nI 1000)) S.1 S.2.1 dX2_distance_37 (by decide) ?_
        refine lv_icmp_ge (tgt := 52) S.1 S.2.1 dX2_distance_40 (by decide) (fun c4 => ?_) (fun c4 => ?_)
        · refine lv_iconst (v := (-1)) S.1 S.2.1 dX2_distance_52 (by decide) ?_
          have e9 : cDistS (nI x1) (nI y1) σ = cMeas x1 y1 σ := by first | (simp only [cDistS, c1, cl8 hx1, c2, cl8 hy1, c3, c4, reduceIte, Bool.false_eq_true, eq_self_iff_true, if_true, if_false]; done) | with_reducible rfl
          rw [e9]
          exact kret_i S hr hlk hP hD hS (by first | (simp only [cDist, c1, cl8 hx1, c2, cl8 hy1, c3, c4, reduceIte, Bool.false_eq_true, eq_self_iff_true, if_true, if_false]; done) | with_reducible rfl) dX2_distance_53
        · refine lv_aload_n S.1 S.2.1 dX2_distance_43 rfl (lv_at hl 0 rfl) ?_
          refine cf_net_costToGoal S hK hP dX2_distance_44 ?_
          refine lv_iload_n S.1 S.2.1 dX2_distance_47 rfl (lv_at hl 1 rfl) ?_
          refine ca_costToGoal S hK hP (j := x1) (by omega) dX2_distance_48 ?_
          refine lv_goto (tgt := 53) S.1 S.2.1 dX2_distance_49 (by decide) ?_
          have e9 : cDistS (nI x1) (nI y1) σ = cMeas x1 y1 σ := by first | (simp only [cDistS, c1, cl8 hx1, c2, cl8 hy1, c3, c4, reduceIte, Bool.false_eq_true, eq_self_iff_true, if_true, if_false]; done) | with_reducible rfl
          rw [e9]
          exact kret_i S hr hlk hP hD hS (by first | (simp only [cDist, c1, cl8 hx1, c2, cl8 hy1, c3, c4, reduceIte, Bool.false_eq_true, eq_self_iff_true, if_true, if_false]; done) | with_reducible rfl) dX2_distance_53
      · refine lv_iconst (v := (-1)) S.1 S.2.1 dX2_distance_23 (by decide) ?_
        have e9 : cDistS (nI x1) (nI y1) σ = σ := by first | (simp only [cDistS, c1, cl8 hx1, c2, cl8 hy1, eq_true c3, reduceIte, Bool.false_eq_true, eq_self_iff_true, if_true, if_false]; done) | with_reducible rfl
        rw [e9]
        exact kret_i S hr hlk hP hD hS (by first | (simp only [cDist, c1, cl8 hx1, c2, cl8 hy1, eq_true c3, reduceIte, Bool.false_eq_true, eq_self_iff_true, if_true, if_false]; done) | with_reducible rfl) dX2_distance_24
set_option maxHeartbeats 400000 in
set_option maxRecDepth 100000 in
theorem c_X2_next (l : Launch) (D : va_G) (cy : Nat → ClassId) (a : Nat → Nat) (X : va_W) (σ : CS) (x : Int32) (y : Int32)  : MetI l yX2_next cX2_next 3 .int (kRm 4 0 0) D (tyA cy) nestC [.ref (a 0), .int (x), .int (y)] (X ++ cB cy a σ) (X ++ cB cy a (cDistS x y σ)) (cNext x y σ) 0 0 := by
  intro sz
  refine kmet (own := RX2) (by decide) rfl (Nat.le_of_ble_eq_true rfl) (fun p e s m args below meth c S hr hlk hK hN hP hD hsz hA hnm ls hl => ?_)
  have hS : va_S (va_A (X ++ cB cy a σ) sz) s.heap s.heap [] := va_S.rf
  have hl : lv_has ls 3 [(0, .ref (a 0)), (1, .int (x)), (2, .int (y))] := hl
  refine lv_iload_n S.1 S.2.1 dX2_next_0 rfl (lv_at hl 1 rfl) ?_
  refine call_X2_isNode S hK hN hP hD hS hA (x := x)  hl.1 (Nat.le_of_ble_eq_true rfl) ⟨Nat.le_of_ble_eq_true rfl, Nat.le_of_ble_eq_true rfl⟩ dX2_next_1 ⟨Nat.le_refl _, Nat.le_refl _⟩ (fun H locs hP hD hS => ?_)
  refine kb_eq (tgt := 23) S dX2_next_4 (by decide) (fun c1 => ?_) (fun c1 => ?_)
  · refine lv_iconst (v := (-1)) S.1 S.2.1 dX2_next_23 (by decide) ?_
    have e9 : cDistS x y σ = σ := by first | (simp only [cDistS, c1, reduceIte, Bool.false_eq_true, eq_self_iff_true, if_true, if_false]; done) | with_reducible rfl
    rw [e9]
    exact kret_i S hr hlk hP hD hS (by first | (simp only [cNext, c1, reduceIte, Bool.false_eq_true, eq_self_iff_true, if_true, if_false]; done) | with_reducible rfl) dX2_next_24
  · obtain ⟨x1, hx1, rfl⟩ := isN_of c1
    refine lv_iload_n S.1 S.2.1 dX2_next_7 rfl (lv_at hl 2 rfl) ?_
    refine call_X2_isNode S hK hN hP hD hS hA (x := y)  hl.1 (Nat.le_of_ble_eq_true rfl) ⟨Nat.le_of_ble_eq_true rfl, Nat.le_of_ble_eq_true rfl⟩ dX2_next_8 ⟨Nat.le_refl _, Nat.le_refl _⟩ (fun H locs hP hD hS => ?_)
    refine kb_eq (tgt := 23) S dX2_next_11 (by decide) (fun c2 => ?_) (fun c2 => ?_)
    · refine lv_iconst (v := (-1)) S.1 S.2.1 dX2_next_23 (by decide) ?_
      have e9 : cDistS (nI x1) y σ = σ := by first | (simp only [cDistS, c1, cl8 hx1, c2, reduceIte, Bool.false_eq_true, eq_self_iff_true, if_true, if_false]; done) | with_reducible rfl
      rw [e9]
      exact kret_i S hr hlk hP hD hS (by first | (simp only [cNext, c1, cl8 hx1, c2, reduceIte, Bool.false_eq_true, eq_self_iff_true, if_true, if_false]; done) | with_reducible rfl) dX2_next_24
    · obtain ⟨y1, hy1, rfl⟩ := isN_of c2
      refine lv_aload_n S.1 S.2.1 dX2_next_14 rfl (lv_at hl 0 rfl) ?_
      refine cf_net_there S hK hP dX2_next_15 ?_
      refine lv_iload_n S.1 S.2.1 dX2_next_18 rfl (lv_at hl 1 rfl) ?_
      refine ca_there S hK hP (j := x1) (by omega) dX2_next_19 ?_
      refine lv_if_ne (tgt := 25) S.1 S.2.1 dX2_next_20 (by decide) (fun c3 => ?_) (fun c3 => ?_)
      · refine lv_aload_n S.1 S.2.1 dX2_next_25 rfl (lv_at hl 0 rfl) ?_
        refine lv_iload_n S.1 S.2.1 dX2_next_26 rfl (lv_at hl 1 rfl) ?_
        refine lv_iload_n S.1 S.2.1 dX2_next_27 rfl (lv_at hl 2 rfl) ?_
        refine call_X2_nextHop S hK hN hP hD hS hA (v := x1) (g := y1) (by omega) (by omega) hl.1 (Nat.le_of_ble_eq_true rfl) ⟨Nat.le_of_ble_eq_true rfl, Nat.le_of_ble_eq_true rfl⟩ dX2_next_28 ⟨Nat.le_refl _, Nat.le_refl _⟩ (fun H locs hP hD hS => ?_)
        have e9 : cDistS (nI x1) (nI y1) σ = cMeas x1 y1 σ := by first | (simp only [cDistS, c1, cl8 hx1, c2, cl8 hy1, c3, reduceIte, Bool.false_eq_true, eq_self_iff_true, if_true, if_false]; done) | with_reducible rfl
        rw [e9]
        exact kret_i S hr hlk hP hD hS (by first | (simp only [cNext, c1, cl8 hx1, c2, cl8 hy1, c3, reduceIte, Bool.false_eq_true, eq_self_iff_true, if_true, if_false]; done) | with_reducible rfl) dX2_next_31
      · refine lv_iconst (v := (-1)) S.1 S.2.1 dX2_next_23 (by decide) ?_
        have e9 : cDistS (nI x1) (nI y1) σ = σ := by first | (simp only [cDistS, c1, cl8 hx1, c2, cl8 hy1, eq_true c3, reduceIte, Bool.false_eq_true, eq_self_iff_true, if_true, if_false]; done) | with_reducible rfl
        rw [e9]
        exact kret_i S hr hlk hP hD hS (by first | (simp only [cNext, c1, cl8 hx1, c2, cl8 hy1, eq_true c3, reduceIte, Bool.false_eq_true, eq_self_iff_true, if_true, if_false]; done) | with_reducible rfl) dX2_next_24
set_option maxHeartbeats 400000 in
set_option maxRecDepth 100000 in
theorem c_X2_news (l : Launch) (D : va_G) (cy : Nat → ClassId) (a : Nat → Nat) (X : va_W) (σ : CS) (x : Int32) (y : Int32) (z : Int32)  : MetI l yX2_news cX2_news 5 .int (kRm 2 0 0) D (tyA cy) nestC [.ref (a 0), .int (x), .int (y), .int (z)] (X ++ cB cy a σ) (X ++ cB cy a σ) (cNews x y z σ) 0 0 := by
  intro sz
  refine kmet (own := RX2) (by decide) rfl (Nat.le_of_ble_eq_true rfl) (fun p e s m args below meth c S hr hlk hK hN hP hD hsz hA hnm ls hl => ?_)
  have hS : va_S (va_A (X ++ cB cy a σ) sz) s.heap s.heap [] := va_S.rf
  have hl : lv_has ls 5 [(0, .ref (a 0)), (1, .int (x)), (2, .int (y)), (3, .int (z))] := hl
  refine lv_iload_n S.1 S.2.1 dX2_news_0 rfl (lv_at hl 1 rfl) ?_
  refine call_X2_isNode S hK hN hP hD hS hA (x := x)  hl.1 (Nat.le_of_ble_eq_true rfl) ⟨Nat.le_of_ble_eq_true rfl, Nat.le_of_ble_eq_true rfl⟩ dX2_news_1 ⟨Nat.le_refl _, Nat.le_refl _⟩ (fun H locs hP hD hS => ?_)
  refine kb_eq (tgt := 14) S dX2_news_4 (by decide) (fun c1 => ?_) (fun c1 => ?_)
  · refine lv_iconst (v := (-1)) S.1 S.2.1 dX2_news_14 (by decide) ?_
    exact kret_i S hr hlk hP hD hS (by first | (simp only [cNews, c1, reduceIte, Bool.false_eq_true, eq_self_iff_true, if_true, if_false]; done) | with_reducible rfl) dX2_news_15
  · obtain ⟨x1, hx1, rfl⟩ := isN_of c1
    refine lv_iload_n S.1 S.2.1 dX2_news_7 rfl (lv_at hl 2 rfl) ?_
    refine call_X2_isNode S hK hN hP hD hS hA (x := y)  hl.1 (Nat.le_of_ble_eq_true rfl) ⟨Nat.le_of_ble_eq_true rfl, Nat.le_of_ble_eq_true rfl⟩ dX2_news_8 ⟨Nat.le_refl _, Nat.le_refl _⟩ (fun H locs hP hD hS => ?_)
    refine kb_ne (tgt := 16) S dX2_news_11 (by decide) (fun c2 => ?_) (fun c2 => ?_)
    · obtain ⟨y1, hy1, rfl⟩ := isN_of c2
      refine lv_iload_n S.1 S.2.1 dX2_news_16 rfl (lv_at hl 1 rfl) ?_
      refine lv_iload_n S.1 S.2.1 dX2_news_17 rfl (lv_at hl 2 rfl) ?_
      refine call_X2_knownRow S hK hN hP hD hS hA (u := x1) (v := y1)  hl.1 (Nat.le_of_ble_eq_true rfl) ⟨Nat.le_of_ble_eq_true rfl, Nat.le_of_ble_eq_true rfl⟩ dX2_news_18 ⟨Nat.le_refl _, Nat.le_refl _⟩ (fun H locs hP hD hS => ?_)
      refine lv_istore (lv' := [(4, .int (nI (x1 * 8 + y1))), (0, .ref (a 0)), (1, .int (nI (x1))), (2, .int (nI (y1))), (3, .int (z))]) S.1 S.2.1 dX2_news_21 hl (by decide) rfl (fun ls hl => ?_)
      refine lv_aload_n S.1 S.2.1 dX2_news_23 rfl (lv_at hl 1 rfl) ?_
      refine cf_net_known S hK hP dX2_news_24 ?_
      refine cn_known_number S hK hN hP dX2_news_27 ?_
      refine lv_iload S.1 S.2.1 dX2_news_30 (lv_at hl 0 rfl) ?_
      refine ca_knNumber S hK hP (j := (x1 * 8 + y1)) (by omega) dX2_news_32 ?_
      refine lv_if_ne (tgt := 38) S.1 S.2.1 dX2_news_33 (by decide) (fun c3 => ?_) (fun c3 => ?_)
      · refine lv_iload_n S.1 S.2.1 dX2_news_38 rfl (lv_at hl 4 rfl) ?_
        rcases sw02 z with c4 | ⟨c4a, c4⟩ | ⟨c4a, c4b, c4⟩ | ⟨c4a, c4b, c4c, c4⟩
        · refine lv_tableIn (tgt := 64) S.1 S.2.1 dX2_news_39 (by rw [c4]; decide) (by rw [c4]; decide) (by rw [c4]; rfl) (by decide) ?_
          refine lv_aload_n S.1 S.2.1 dX2_news_64 rfl (lv_at hl 1 rfl) ?_
          refine cf_net_known S hK hP dX2_news_65 ?_
          refine cn_known_number S hK hN hP dX2_news_68 ?_
          refine lv_iload S.1 S.2.1 dX2_news_71 (lv_at hl 0 rfl) ?_
          refine ca_knNumber S hK hP (j := (x1 * 8 + y1)) (by omega) dX2_news_73 ?_
          exact kret_i S hr hlk hP hD hS (by first | (simp only [cNews, c1, cl8 hx1, c2, cl8 hy1, c3, eq_true c4, reduceIte, Bool.false_eq_true, eq_self_iff_true, if_true, if_false]; done) | with_reducible rfl) dX2_news_74
        · refine lv_tableIn (tgt := 75) S.1 S.2.1 dX2_news_39 (by rw [c4]; decide) (by rw [c4]; decide) (by rw [c4]; rfl) (by decide) ?_
          refine lv_aload_n S.1 S.2.1 dX2_news_75 rfl (lv_at hl 1 rfl) ?_
          refine cf_net_time S hK hP dX2_news_76 ?_
          refine lv_aload_n S.1 S.2.1 dX2_news_79 rfl (lv_at hl 1 rfl) ?_
          refine cf_net_known S hK hP dX2_news_80 ?_
          refine cn_known_born S hK hN hP dX2_news_83 ?_
          refine lv_iload S.1 S.2.1 dX2_news_86 (lv_at hl 0 rfl) ?_
          refine ca_knBorn S hK hP (j := (x1 * 8 + y1)) (by omega) dX2_news_88 ?_
          refine lv_isub S.1 S.2.1 dX2_news_89 ?_
          exact kret_i S hr hlk hP hD hS (by first | (simp only [cNews, c1, cl8 hx1, c2, cl8 hy1, c3, c4a, eq_true c4, reduceIte, Bool.false_eq_true, eq_self_iff_true, if_true, if_false]; done) | with_reducible rfl) dX2_news_90
        · refine lv_tableIn (tgt := 91) S.1 S.2.1 dX2_news_39 (by rw [c4]; decide) (by rw [c4]; decide) (by rw [c4]; rfl) (by decide) ?_
          refine lv_aload_n S.1 S.2.1 dX2_news_91 rfl (lv_at hl 1 rfl) ?_
          refine cf_net_known S hK hP dX2_news_92 ?_
          refine lv_iload S.1 S.2.1 dX2_news_95 (lv_at hl 0 rfl) ?_
          refine call_X1_costCount_known S hK hN hP hD hS hA (row := x1 * 8 + y1) (by omega) hl.1 (Nat.le_of_ble_eq_true rfl) ⟨Nat.le_of_ble_eq_true rfl, Nat.le_of_ble_eq_true rfl⟩ dX2_news_97 ⟨Nat.le_refl _, Nat.le_refl _⟩ (fun H locs hP hD hS => ?_)
          exact kret_i S hr hlk hP hD hS (by first | (simp only [cNews, c1, cl8 hx1, c2, cl8 hy1, c3, c4a, c4b, eq_true c4, reduceIte, Bool.false_eq_true, eq_self_iff_true, if_true, if_false]; done) | with_reducible rfl) dX2_news_100
        · refine lv_tableOut (tgt := 101) S.1 S.2.1 dX2_news_39 c4 (by decide) ?_
          refine lv_iload_n S.1 S.2.1 dX2_news_101 rfl (lv_at hl 4 rfl) ?_
          refine lv_bipush (v := (nI 10)) S.1 S.2.1 dX2_news_102 (by decide) ?_
          refine lv_icmp_lt (tgt := 133) S.1 S.2.1 dX2_news_104 (by decide) (fun c5 => ?_) (fun c5 => ?_)
          · refine lv_iconst (v := (-1)) S.1 S.2.1 dX2_news_133 (by decide) ?_
            exact kret_i S hr hlk hP hD hS (by first | (simp only [cNews, c1, cl8 hx1, c2, cl8 hy1, c3, c4a, c4b, c4c, c5, reduceIte, Bool.false_eq_true, eq_self_iff_true, if_true, if_false]; done) | with_reducible rfl) dX2_news_134
          · refine lv_iload_n S.1 S.2.1 dX2_news_107 rfl (lv_at hl 4 rfl) ?_
            refine lv_bipush (v := (nI 10)) S.1 S.2.1 dX2_news_108 (by decide) ?_
            refine lv_isub S.1 S.2.1 dX2_news_110 ?_
            refine call_X2_isNode S hK hN hP hD hS hA (x := (z) - (nI 10))  hl.1 (Nat.le_of_ble_eq_true rfl) ⟨Nat.le_of_ble_eq_true rfl, Nat.le_of_ble_eq_true rfl⟩ dX2_news_111 ⟨Nat.le_refl _, Nat.le_refl _⟩ (fun H locs hP hD hS => ?_)
            refine kb_eq (tgt := 133) S dX2_news_114 (by decide) (fun c6 => ?_) (fun c6 => ?_)
            · refine lv_iconst (v := (-1)) S.1 S.2.1 dX2_news_133 (by decide) ?_
              exact kret_i S hr hlk hP hD hS (by first | (simp only [cNews, c1, cl8 hx1, c2, cl8 hy1, c3, c4a, c4b, c4c, c5, c6, reduceIte, Bool.false_eq_true, eq_self_iff_true, if_true, if_false]; done) | with_reducible rfl) dX2_news_134
            · obtain ⟨jc6, hc6j, hc6e⟩ := isN_of c6
              have hc6c : ((z) - (nI 10)).toNatClampNeg = jc6 := by rw [hc6e, cl8 hc6j]
              refine lv_aload_n S.1 S.2.1 dX2_news_117 rfl (lv_at hl 1 rfl) ?_
              refine cf_net_known S hK hP dX2_news_118 ?_
              refine lv_iload S.1 S.2.1 dX2_news_121 (lv_at hl 0 rfl) ?_
              refine lv_iload_n S.1 S.2.1 dX2_news_123 rfl (lv_at hl 4 rfl) ?_
              refine lv_bipush (v := (nI 10)) S.1 S.2.1 dX2_news_124 (by decide) ?_
              refine lv_isub S.1 S.2.1 dX2_news_126 ?_
              refine k_top hc6e ?_
              refine call_X1_costFor_known_X2 S hK hN hP hD hS hA (row := x1 * 8 + y1) (w := jc6) (by omega) hl.1 (Nat.le_of_ble_eq_true rfl) ⟨Nat.le_of_ble_eq_true rfl, Nat.le_of_ble_eq_true rfl⟩ dX2_news_127 ⟨Nat.le_refl _, Nat.le_refl _⟩ (fun H locs hP hD hS => ?_)
              refine lv_goto (tgt := 134) S.1 S.2.1 dX2_news_130 (by decide) ?_
              exact kret_i S hr hlk hP hD hS (by first | (simp only [cNews, c1, cl8 hx1, c2, cl8 hy1, c3, c4a, c4b, c4c, c5, c6, hc6c, reduceIte, Bool.false_eq_true, eq_self_iff_true, if_true, if_false]; done) | with_reducible rfl) dX2_news_134
      · refine lv_iconst (v := (-1)) S.1 S.2.1 dX2_news_36 (by decide) ?_
        exact kret_i S hr hlk hP hD hS (by first | (simp only [cNews, c1, cl8 hx1, c2, cl8 hy1, eq_true c3, reduceIte, Bool.false_eq_true, eq_self_iff_true, if_true, if_false]; done) | with_reducible rfl) dX2_news_37
    · refine lv_iconst (v := (-1)) S.1 S.2.1 dX2_news_14 (by decide) ?_
      exact kret_i S hr hlk hP hD hS (by first | (simp only [cNews, c1, cl8 hx1, c2, reduceIte, Bool.false_eq_true, eq_self_iff_true, if_true, if_false]; done) | with_reducible rfl) dX2_news_15
end
section
theorem i_vc : Claimed_1_1 ∧ Claimed_1_2 := sorry
end
