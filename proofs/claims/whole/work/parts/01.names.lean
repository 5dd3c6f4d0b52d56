-- ===== PART A: goes FIRST, ahead of the names: the tables' words, and 'selects' of the private methods out of them =====
/-- a private method of a class that the tables say can be made, by its rows of tables_1 -/
def lw_okq (q : MethodName × Nat) : Prop := (q.1.cls ≠ "java/lang/invoke/MethodHandle" ∧ q.1.cls ≠ "java/lang/invoke/VarHandle") ∧ Cond.instantiable q.1.cls q.2 ∈ tables_1 ∧ Cond.privateMethod q.1 ∈ tables_1 ∧ Cond.instanceMethod q.1 ∈ tables_1
theorem lw_p0 : lw_okq (⟨"TeethForCoins$Text", "append", "(B)V"⟩, 2) := ⟨⟨by decide +kernel, by decide +kernel⟩, List.mem_of_getElem? (i := 24) (by decide +kernel), List.mem_of_getElem? (i := 218) (by decide +kernel), List.mem_of_getElem? (i := 219) (by decide +kernel)⟩
theorem lw_p1 : lw_okq (⟨"TeethForCoins$Text", "faultPlace", "()I"⟩, 2) := ⟨⟨by decide +kernel, by decide +kernel⟩, List.mem_of_getElem? (i := 24) (by decide +kernel), List.mem_of_getElem? (i := 230) (by decide +kernel), List.mem_of_getElem? (i := 231) (by decide +kernel)⟩
theorem lw_p2 : lw_okq (⟨"TeethForCoins$Text", "byteAt", "(I)I"⟩, 2) := ⟨⟨by decide +kernel, by decide +kernel⟩, List.mem_of_getElem? (i := 24) (by decide +kernel), List.mem_of_getElem? (i := 234) (by decide +kernel), List.mem_of_getElem? (i := 235) (by decide +kernel)⟩
theorem lw_p3 : lw_okq (⟨"TeethForCoins$Text", "mayFollow", "(III)Z"⟩, 2) := ⟨⟨by decide +kernel, by decide +kernel⟩, List.mem_of_getElem? (i := 24) (by decide +kernel), List.mem_of_getElem? (i := 238) (by decide +kernel), List.mem_of_getElem? (i := 239) (by decide +kernel)⟩
theorem lw_p4 : lw_okq (⟨"TeethForCoins$Text", "figureAt", "(I)I"⟩, 2) := ⟨⟨by decide +kernel, by decide +kernel⟩, List.mem_of_getElem? (i := 24) (by decide +kernel), List.mem_of_getElem? (i := 242) (by decide +kernel), List.mem_of_getElem? (i := 243) (by decide +kernel)⟩
theorem lw_p5 : lw_okq (⟨"TeethForCoins", "readPart", "(I)V"⟩, 12) := ⟨⟨by decide +kernel, by decide +kernel⟩, List.mem_of_getElem? (i := 16) (by decide +kernel), List.mem_of_getElem? (i := 260) (by decide +kernel), List.mem_of_getElem? (i := 261) (by decide +kernel)⟩
theorem lw_p6 : lw_okq (⟨"TeethForCoins$Teeth", "add", "(IZI)I"⟩, 2) := ⟨⟨by decide +kernel, by decide +kernel⟩, List.mem_of_getElem? (i := 39) (by decide +kernel), List.mem_of_getElem? (i := 266) (by decide +kernel), List.mem_of_getElem? (i := 267) (by decide +kernel)⟩
theorem lw_p7 : lw_okq (⟨"TeethForCoins$Teeth", "set", "(III)V"⟩, 2) := ⟨⟨by decide +kernel, by decide +kernel⟩, List.mem_of_getElem? (i := 39) (by decide +kernel), List.mem_of_getElem? (i := 270) (by decide +kernel), List.mem_of_getElem? (i := 271) (by decide +kernel)⟩
theorem lw_p8 : lw_okq (⟨"TeethForCoins$Teeth", "passTo", "(II)V"⟩, 2) := ⟨⟨by decide +kernel, by decide +kernel⟩, List.mem_of_getElem? (i := 39) (by decide +kernel), List.mem_of_getElem? (i := 274) (by decide +kernel), List.mem_of_getElem? (i := 275) (by decide +kernel)⟩
theorem lw_p9 : lw_okq (⟨"TeethForCoins$Teeth", "get", "(II)I"⟩, 2) := ⟨⟨by decide +kernel, by decide +kernel⟩, List.mem_of_getElem? (i := 39) (by decide +kernel), List.mem_of_getElem? (i := 278) (by decide +kernel), List.mem_of_getElem? (i := 279) (by decide +kernel)⟩
theorem lw_p10 : lw_okq (⟨"TeethForCoins$Goods", "add", "(II)V"⟩, 3) := ⟨⟨by decide +kernel, by decide +kernel⟩, List.mem_of_getElem? (i := 54) (by decide +kernel), List.mem_of_getElem? (i := 283) (by decide +kernel), List.mem_of_getElem? (i := 284) (by decide +kernel)⟩
theorem lw_p11 : lw_okq (⟨"TeethForCoins$Teeth", "fakes", "()I"⟩, 2) := ⟨⟨by decide +kernel, by decide +kernel⟩, List.mem_of_getElem? (i := 39) (by decide +kernel), List.mem_of_getElem? (i := 295) (by decide +kernel), List.mem_of_getElem? (i := 296) (by decide +kernel)⟩
theorem lw_p12 : lw_okq (⟨"TeethForCoins", "isTooth", "(I)Z"⟩, 12) := ⟨⟨by decide +kernel, by decide +kernel⟩, List.mem_of_getElem? (i := 16) (by decide +kernel), List.mem_of_getElem? (i := 303) (by decide +kernel), List.mem_of_getElem? (i := 304) (by decide +kernel)⟩
theorem lw_p13 : lw_okq (⟨"TeethForCoins", "worthOf", "(I)I"⟩, 12) := ⟨⟨by decide +kernel, by decide +kernel⟩, List.mem_of_getElem? (i := 16) (by decide +kernel), List.mem_of_getElem? (i := 308) (by decide +kernel), List.mem_of_getElem? (i := 309) (by decide +kernel)⟩
theorem lw_p14 : lw_okq (⟨"TeethForCoins", "worthWorn", "(II)I"⟩, 12) := ⟨⟨by decide +kernel, by decide +kernel⟩, List.mem_of_getElem? (i := 16) (by decide +kernel), List.mem_of_getElem? (i := 312) (by decide +kernel), List.mem_of_getElem? (i := 313) (by decide +kernel)⟩
theorem lw_p15 : lw_okq (⟨"TeethForCoins", "isGood", "(I)Z"⟩, 12) := ⟨⟨by decide +kernel, by decide +kernel⟩, List.mem_of_getElem? (i := 16) (by decide +kernel), List.mem_of_getElem? (i := 320) (by decide +kernel), List.mem_of_getElem? (i := 321) (by decide +kernel)⟩
def lw_privs_1 : List (MethodName × Nat) := [(⟨"TeethForCoins$Text", "append", "(B)V"⟩, 2), (⟨"TeethForCoins$Text", "faultPlace", "()I"⟩, 2), (⟨"TeethForCoins$Text", "byteAt", "(I)I"⟩, 2), (⟨"TeethForCoins$Text", "mayFollow", "(III)Z"⟩, 2), (⟨"TeethForCoins$Text", "figureAt", "(I)I"⟩, 2), (⟨"TeethForCoins", "readPart", "(I)V"⟩, 12), (⟨"TeethForCoins$Teeth", "add", "(IZI)I"⟩, 2), (⟨"TeethForCoins$Teeth", "set", "(III)V"⟩, 2), (⟨"TeethForCoins$Teeth", "passTo", "(II)V"⟩, 2), (⟨"TeethForCoins$Teeth", "get", "(II)I"⟩, 2), (⟨"TeethForCoins$Goods", "add", "(II)V"⟩, 3), (⟨"TeethForCoins$Teeth", "fakes", "()I"⟩, 2), (⟨"TeethForCoins", "isTooth", "(I)Z"⟩, 12), (⟨"TeethForCoins", "worthOf", "(I)I"⟩, 12), (⟨"TeethForCoins", "worthWorn", "(II)I"⟩, 12), (⟨"TeethForCoins", "isGood", "(I)Z"⟩, 12)]
theorem lw_r1 : ∀ q ∈ lw_privs_1, lw_okq q := List.forall_mem_cons.mpr ⟨lw_p0, List.forall_mem_cons.mpr ⟨lw_p1, List.forall_mem_cons.mpr ⟨lw_p2, List.forall_mem_cons.mpr ⟨lw_p3, List.forall_mem_cons.mpr ⟨lw_p4, List.forall_mem_cons.mpr ⟨lw_p5, List.forall_mem_cons.mpr ⟨lw_p6, List.forall_mem_cons.mpr ⟨lw_p7, List.forall_mem_cons.mpr ⟨lw_p8, List.forall_mem_cons.mpr ⟨lw_p9, List.forall_mem_cons.mpr ⟨lw_p10, List.forall_mem_cons.mpr ⟨lw_p11, List.forall_mem_cons.mpr ⟨lw_p12, List.forall_mem_cons.mpr ⟨lw_p13, List.forall_mem_cons.mpr ⟨lw_p14, List.forall_mem_cons.mpr ⟨lw_p15, fun _ h => absurd h List.not_mem_nil⟩⟩⟩⟩⟩⟩⟩⟩⟩⟩⟩⟩⟩⟩⟩⟩
theorem lw_p16 : lw_okq (⟨"TeethForCoins$Goods", "priceOf", "(I)I"⟩, 3) := ⟨⟨by decide +kernel, by decide +kernel⟩, List.mem_of_getElem? (i := 54) (by decide +kernel), List.mem_of_getElem? (i := 324) (by decide +kernel), List.mem_of_getElem? (i := 325) (by decide +kernel)⟩
theorem lw_p17 : lw_okq (⟨"TeethForCoins$Goods", "useOf", "(I)I"⟩, 3) := ⟨⟨by decide +kernel, by decide +kernel⟩, List.mem_of_getElem? (i := 54) (by decide +kernel), List.mem_of_getElem? (i := 328) (by decide +kernel), List.mem_of_getElem? (i := 329) (by decide +kernel)⟩
theorem lw_p18 : lw_okq (⟨"TeethForCoins$Teeth", "ownedBy", "(I)I"⟩, 2) := ⟨⟨by decide +kernel, by decide +kernel⟩, List.mem_of_getElem? (i := 39) (by decide +kernel), List.mem_of_getElem? (i := 339) (by decide +kernel), List.mem_of_getElem? (i := 340) (by decide +kernel)⟩
theorem lw_p19 : lw_okq (⟨"TeethForCoins", "worthOfSet", "(I)I"⟩, 12) := ⟨⟨by decide +kernel, by decide +kernel⟩, List.mem_of_getElem? (i := 16) (by decide +kernel), List.mem_of_getElem? (i := 343) (by decide +kernel), List.mem_of_getElem? (i := 344) (by decide +kernel)⟩
theorem lw_p20 : lw_okq (⟨"TeethForCoins$Teeth", "wearDown", "(I)V"⟩, 2) := ⟨⟨by decide +kernel, by decide +kernel⟩, List.mem_of_getElem? (i := 39) (by decide +kernel), List.mem_of_getElem? (i := 351) (by decide +kernel), List.mem_of_getElem? (i := 352) (by decide +kernel)⟩
theorem lw_p21 : lw_okq (⟨"TeethForCoins", "seekFewest", "(III)V"⟩, 12) := ⟨⟨by decide +kernel, by decide +kernel⟩, List.mem_of_getElem? (i := 16) (by decide +kernel), List.mem_of_getElem? (i := 372) (by decide +kernel), List.mem_of_getElem? (i := 373) (by decide +kernel)⟩
theorem lw_p22 : lw_okq (⟨"TeethForCoins", "weighSets", "(I)V"⟩, 12) := ⟨⟨by decide +kernel, by decide +kernel⟩, List.mem_of_getElem? (i := 16) (by decide +kernel), List.mem_of_getElem? (i := 376) (by decide +kernel), List.mem_of_getElem? (i := 377) (by decide +kernel)⟩
theorem lw_p23 : lw_okq (⟨"TeethForCoins$Least", "clear", "()V"⟩, 4) := ⟨⟨by decide +kernel, by decide +kernel⟩, List.mem_of_getElem? (i := 106) (by decide +kernel), List.mem_of_getElem? (i := 380) (by decide +kernel), List.mem_of_getElem? (i := 381) (by decide +kernel)⟩
theorem lw_p24 : lw_okq (⟨"TeethForCoins", "setsOfTeeth", "()I"⟩, 12) := ⟨⟨by decide +kernel, by decide +kernel⟩, List.mem_of_getElem? (i := 16) (by decide +kernel), List.mem_of_getElem? (i := 384) (by decide +kernel), List.mem_of_getElem? (i := 385) (by decide +kernel)⟩
theorem lw_p25 : lw_okq (⟨"TeethForCoins$Least", "offer", "(III)V"⟩, 4) := ⟨⟨by decide +kernel, by decide +kernel⟩, List.mem_of_getElem? (i := 106) (by decide +kernel), List.mem_of_getElem? (i := 395) (by decide +kernel), List.mem_of_getElem? (i := 396) (by decide +kernel)⟩
theorem lw_p26 : lw_okq (⟨"TeethForCoins$Bargains", "remember", "(LTeethForCoins$Teeth;)V"⟩, 2) := ⟨⟨by decide +kernel, by decide +kernel⟩, List.mem_of_getElem? (i := 71) (by decide +kernel), List.mem_of_getElem? (i := 407) (by decide +kernel), List.mem_of_getElem? (i := 408) (by decide +kernel)⟩
theorem lw_p27 : lw_okq (⟨"TeethForCoins$Teeth", "copyFrom", "(LTeethForCoins$Teeth;)V"⟩, 2) := ⟨⟨by decide +kernel, by decide +kernel⟩, List.mem_of_getElem? (i := 39) (by decide +kernel), List.mem_of_getElem? (i := 411) (by decide +kernel), List.mem_of_getElem? (i := 412) (by decide +kernel)⟩
theorem lw_p28 : lw_okq (⟨"TeethForCoins$Teeth", "copyCells", "(LTeethForCoins$Teeth;II)V"⟩, 2) := ⟨⟨by decide +kernel, by decide +kernel⟩, List.mem_of_getElem? (i := 39) (by decide +kernel), List.mem_of_getElem? (i := 415) (by decide +kernel), List.mem_of_getElem? (i := 416) (by decide +kernel)⟩
theorem lw_p29 : lw_okq (⟨"TeethForCoins", "handOver", "(II)V"⟩, 12) := ⟨⟨by decide +kernel, by decide +kernel⟩, List.mem_of_getElem? (i := 16) (by decide +kernel), List.mem_of_getElem? (i := 422) (by decide +kernel), List.mem_of_getElem? (i := 423) (by decide +kernel)⟩
theorem lw_p30 : lw_okq (⟨"TeethForCoins$Bargains", "takeBack", "(LTeethForCoins$Teeth;)V"⟩, 2) := ⟨⟨by decide +kernel, by decide +kernel⟩, List.mem_of_getElem? (i := 71) (by decide +kernel), List.mem_of_getElem? (i := 431) (by decide +kernel), List.mem_of_getElem? (i := 432) (by decide +kernel)⟩
theorem lw_p31 : lw_okq (⟨"TeethForCoins$Teeth", "takeBack", "(LTeethForCoins$Teeth;)V"⟩, 2) := ⟨⟨by decide +kernel, by decide +kernel⟩, List.mem_of_getElem? (i := 39) (by decide +kernel), List.mem_of_getElem? (i := 435) (by decide +kernel), List.mem_of_getElem? (i := 436) (by decide +kernel)⟩
def lw_privs_2 : List (MethodName × Nat) := [(⟨"TeethForCoins$Goods", "priceOf", "(I)I"⟩, 3), (⟨"TeethForCoins$Goods", "useOf", "(I)I"⟩, 3), (⟨"TeethForCoins$Teeth", "ownedBy", "(I)I"⟩, 2), (⟨"TeethForCoins", "worthOfSet", "(I)I"⟩, 12), (⟨"TeethForCoins$Teeth", "wearDown", "(I)V"⟩, 2), (⟨"TeethForCoins", "seekFewest", "(III)V"⟩, 12), (⟨"TeethForCoins", "weighSets", "(I)V"⟩, 12), (⟨"TeethForCoins$Least", "clear", "()V"⟩, 4), (⟨"TeethForCoins", "setsOfTeeth", "()I"⟩, 12), (⟨"TeethForCoins$Least", "offer", "(III)V"⟩, 4), (⟨"TeethForCoins$Bargains", "remember", "(LTeethForCoins$Teeth;)V"⟩, 2), (⟨"TeethForCoins$Teeth", "copyFrom", "(LTeethForCoins$Teeth;)V"⟩, 2), (⟨"TeethForCoins$Teeth", "copyCells", "(LTeethForCoins$Teeth;II)V"⟩, 2), (⟨"TeethForCoins", "handOver", "(II)V"⟩, 12), (⟨"TeethForCoins$Bargains", "takeBack", "(LTeethForCoins$Teeth;)V"⟩, 2), (⟨"TeethForCoins$Teeth", "takeBack", "(LTeethForCoins$Teeth;)V"⟩, 2)]
theorem lw_r2 : ∀ q ∈ lw_privs_2, lw_okq q := List.forall_mem_cons.mpr ⟨lw_p16, List.forall_mem_cons.mpr ⟨lw_p17, List.forall_mem_cons.mpr ⟨lw_p18, List.forall_mem_cons.mpr ⟨lw_p19, List.forall_mem_cons.mpr ⟨lw_p20, List.forall_mem_cons.mpr ⟨lw_p21, List.forall_mem_cons.mpr ⟨lw_p22, List.forall_mem_cons.mpr ⟨lw_p23, List.forall_mem_cons.mpr ⟨lw_p24, List.forall_mem_cons.mpr ⟨lw_p25, List.forall_mem_cons.mpr ⟨lw_p26, List.forall_mem_cons.mpr ⟨lw_p27, List.forall_mem_cons.mpr ⟨lw_p28, List.forall_mem_cons.mpr ⟨lw_p29, List.forall_mem_cons.mpr ⟨lw_p30, List.forall_mem_cons.mpr ⟨lw_p31, fun _ h => absurd h List.not_mem_nil⟩⟩⟩⟩⟩⟩⟩⟩⟩⟩⟩⟩⟩⟩⟩⟩
theorem lw_p32 : lw_okq (⟨"TeethForCoins", "seekTooMuch", "(II)V"⟩, 12) := ⟨⟨by decide +kernel, by decide +kernel⟩, List.mem_of_getElem? (i := 16) (by decide +kernel), List.mem_of_getElem? (i := 443) (by decide +kernel), List.mem_of_getElem? (i := 444) (by decide +kernel)⟩
theorem lw_p33 : lw_okq (⟨"TeethForCoins$Goods", "priceOfSet", "(I)I"⟩, 3) := ⟨⟨by decide +kernel, by decide +kernel⟩, List.mem_of_getElem? (i := 54) (by decide +kernel), List.mem_of_getElem? (i := 456) (by decide +kernel), List.mem_of_getElem? (i := 457) (by decide +kernel)⟩
theorem lw_p34 : lw_okq (⟨"TeethForCoins$Goods", "useOfSet", "(I)I"⟩, 3) := ⟨⟨by decide +kernel, by decide +kernel⟩, List.mem_of_getElem? (i := 54) (by decide +kernel), List.mem_of_getElem? (i := 461) (by decide +kernel), List.mem_of_getElem? (i := 462) (by decide +kernel)⟩
theorem lw_p35 : lw_okq (⟨"TeethForCoins", "addDrawn", "(IJ)V"⟩, 12) := ⟨⟨by decide +kernel, by decide +kernel⟩, List.mem_of_getElem? (i := 16) (by decide +kernel), List.mem_of_getElem? (i := 475) (by decide +kernel), List.mem_of_getElem? (i := 476) (by decide +kernel)⟩
theorem lw_p36 : lw_okq (⟨"TeethForCoins$Teeth", "traceOf", "(II)I"⟩, 2) := ⟨⟨by decide +kernel, by decide +kernel⟩, List.mem_of_getElem? (i := 39) (by decide +kernel), List.mem_of_getElem? (i := 493) (by decide +kernel), List.mem_of_getElem? (i := 494) (by decide +kernel)⟩
theorem lw_p37 : lw_okq (⟨"TeethForCoins$Rates", "gotFor", "(II)I"⟩, 2) := ⟨⟨by decide +kernel, by decide +kernel⟩, List.mem_of_getElem? (i := 88) (by decide +kernel), List.mem_of_getElem? (i := 531) (by decide +kernel), List.mem_of_getElem? (i := 532) (by decide +kernel)⟩
theorem lw_p38 : lw_okq (⟨"TeethForCoins$Rates", "givenFor", "(II)I"⟩, 2) := ⟨⟨by decide +kernel, by decide +kernel⟩, List.mem_of_getElem? (i := 88) (by decide +kernel), List.mem_of_getElem? (i := 535) (by decide +kernel), List.mem_of_getElem? (i := 536) (by decide +kernel)⟩
theorem lw_p39 : lw_okq (⟨"TeethForCoins$Rates", "put", "(IIII)V"⟩, 2) := ⟨⟨by decide +kernel, by decide +kernel⟩, List.mem_of_getElem? (i := 88) (by decide +kernel), List.mem_of_getElem? (i := 539) (by decide +kernel), List.mem_of_getElem? (i := 540) (by decide +kernel)⟩
theorem lw_p40 : lw_okq (⟨"TeethForCoins", "seekRing", "()V"⟩, 12) := ⟨⟨by decide +kernel, by decide +kernel⟩, List.mem_of_getElem? (i := 16) (by decide +kernel), List.mem_of_getElem? (i := 547) (by decide +kernel), List.mem_of_getElem? (i := 548) (by decide +kernel)⟩
theorem lw_p41 : lw_okq (⟨"TeethForCoins$Ring", "clear", "()V"⟩, 4) := ⟨⟨by decide +kernel, by decide +kernel⟩, List.mem_of_getElem? (i := 129) (by decide +kernel), List.mem_of_getElem? (i := 551) (by decide +kernel), List.mem_of_getElem? (i := 552) (by decide +kernel)⟩
theorem lw_p42 : lw_okq (⟨"TeethForCoins$Ring", "offer", "(LTeethForCoins$Rates;II)V"⟩, 4) := ⟨⟨by decide +kernel, by decide +kernel⟩, List.mem_of_getElem? (i := 129) (by decide +kernel), List.mem_of_getElem? (i := 561) (by decide +kernel), List.mem_of_getElem? (i := 562) (by decide +kernel)⟩
theorem lw_p43 : lw_okq (⟨"TeethForCoins$Teeth", "wearTooMuch", "(I)I"⟩, 2) := ⟨⟨by decide +kernel, by decide +kernel⟩, List.mem_of_getElem? (i := 39) (by decide +kernel), List.mem_of_getElem? (i := 580) (by decide +kernel), List.mem_of_getElem? (i := 581) (by decide +kernel)⟩
theorem lw_p44 : lw_okq (⟨"TeethForCoins$Teeth", "wearTooMuchOf", "(I)I"⟩, 2) := ⟨⟨by decide +kernel, by decide +kernel⟩, List.mem_of_getElem? (i := 39) (by decide +kernel), List.mem_of_getElem? (i := 589) (by decide +kernel), List.mem_of_getElem? (i := 590) (by decide +kernel)⟩
theorem lw_p45 : lw_okq (⟨"TeethForCoins", "isSlot", "(I)Z"⟩, 12) := ⟨⟨by decide +kernel, by decide +kernel⟩, List.mem_of_getElem? (i := 16) (by decide +kernel), List.mem_of_getElem? (i := 598) (by decide +kernel), List.mem_of_getElem? (i := 599) (by decide +kernel)⟩
theorem lw_p46 : lw_okq (⟨"TeethForCoins$Slot", "takeIn", "(LTeethForCoins$Teeth;LTeethForCoins$Bargains;LTeethForCoins$Rates;)V"⟩, 4) := ⟨⟨by decide +kernel, by decide +kernel⟩, List.mem_of_getElem? (i := 151) (by decide +kernel), List.mem_of_getElem? (i := 602) (by decide +kernel), List.mem_of_getElem? (i := 603) (by decide +kernel)⟩
theorem lw_p47 : lw_okq (⟨"TeethForCoins$Bargains", "copyFrom", "(LTeethForCoins$Bargains;)V"⟩, 2) := ⟨⟨by decide +kernel, by decide +kernel⟩, List.mem_of_getElem? (i := 71) (by decide +kernel), List.mem_of_getElem? (i := 607) (by decide +kernel), List.mem_of_getElem? (i := 608) (by decide +kernel)⟩
def lw_privs_3 : List (MethodName × Nat) := [(⟨"TeethForCoins", "seekTooMuch", "(II)V"⟩, 12), (⟨"TeethForCoins$Goods", "priceOfSet", "(I)I"⟩, 3), (⟨"TeethForCoins$Goods", "useOfSet", "(I)I"⟩, 3), (⟨"TeethForCoins", "addDrawn", "(IJ)V"⟩, 12), (⟨"TeethForCoins$Teeth", "traceOf", "(II)I"⟩, 2), (⟨"TeethForCoins$Rates", "gotFor", "(II)I"⟩, 2), (⟨"TeethForCoins$Rates", "givenFor", "(II)I"⟩, 2), (⟨"TeethForCoins$Rates", "put", "(IIII)V"⟩, 2), (⟨"TeethForCoins", "seekRing", "()V"⟩, 12), (⟨"TeethForCoins$Ring", "clear", "()V"⟩, 4), (⟨"TeethForCoins$Ring", "offer", "(LTeethForCoins$Rates;II)V"⟩, 4), (⟨"TeethForCoins$Teeth", "wearTooMuch", "(I)I"⟩, 2), (⟨"TeethForCoins$Teeth", "wearTooMuchOf", "(I)I"⟩, 2), (⟨"TeethForCoins", "isSlot", "(I)Z"⟩, 12), (⟨"TeethForCoins$Slot", "takeIn", "(LTeethForCoins$Teeth;LTeethForCoins$Bargains;LTeethForCoins$Rates;)V"⟩, 4), (⟨"TeethForCoins$Bargains", "copyFrom", "(LTeethForCoins$Bargains;)V"⟩, 2)]
theorem lw_r3 : ∀ q ∈ lw_privs_3, lw_okq q := List.forall_mem_cons.mpr ⟨lw_p32, List.forall_mem_cons.mpr ⟨lw_p33, List.forall_mem_cons.mpr ⟨lw_p34, List.forall_mem_cons.mpr ⟨lw_p35, List.forall_mem_cons.mpr ⟨lw_p36, List.forall_mem_cons.mpr ⟨lw_p37, List.forall_mem_cons.mpr ⟨lw_p38, List.forall_mem_cons.mpr ⟨lw_p39, List.forall_mem_cons.mpr ⟨lw_p40, List.forall_mem_cons.mpr ⟨lw_p41, List.forall_mem_cons.mpr ⟨lw_p42, List.forall_mem_cons.mpr ⟨lw_p43, List.forall_mem_cons.mpr ⟨lw_p44, List.forall_mem_cons.mpr ⟨lw_p45, List.forall_mem_cons.mpr ⟨lw_p46, List.forall_mem_cons.mpr ⟨lw_p47, fun _ h => absurd h List.not_mem_nil⟩⟩⟩⟩⟩⟩⟩⟩⟩⟩⟩⟩⟩⟩⟩⟩
theorem lw_p48 : lw_okq (⟨"TeethForCoins$Rates", "copyFrom", "(LTeethForCoins$Rates;)V"⟩, 2) := ⟨⟨by decide +kernel, by decide +kernel⟩, List.mem_of_getElem? (i := 88) (by decide +kernel), List.mem_of_getElem? (i := 611) (by decide +kernel), List.mem_of_getElem? (i := 612) (by decide +kernel)⟩
theorem lw_p49 : lw_okq (⟨"TeethForCoins$Slot", "giveOut", "(LTeethForCoins$Teeth;LTeethForCoins$Bargains;LTeethForCoins$Rates;)V"⟩, 4) := ⟨⟨by decide +kernel, by decide +kernel⟩, List.mem_of_getElem? (i := 151) (by decide +kernel), List.mem_of_getElem? (i := 621) (by decide +kernel), List.mem_of_getElem? (i := 622) (by decide +kernel)⟩
theorem lw_p50 : lw_okq (⟨"TeethForCoinsModel", "readMarket", "()I"⟩, 48) := ⟨⟨by decide +kernel, by decide +kernel⟩, List.mem_of_getElem? (i := 625) (by decide +kernel), List.mem_of_getElem? (i := 793) (by decide +kernel), List.mem_of_getElem? (i := 794) (by decide +kernel)⟩
theorem lw_p51 : lw_okq (⟨"TeethForCoinsModel", "figure", "(II)I"⟩, 48) := ⟨⟨by decide +kernel, by decide +kernel⟩, List.mem_of_getElem? (i := 625) (by decide +kernel), List.mem_of_getElem? (i := 797) (by decide +kernel), List.mem_of_getElem? (i := 798) (by decide +kernel)⟩
theorem lw_p52 : lw_okq (⟨"TeethForCoinsModel", "readPart", "()Z"⟩, 48) := ⟨⟨by decide +kernel, by decide +kernel⟩, List.mem_of_getElem? (i := 625) (by decide +kernel), List.mem_of_getElem? (i := 801) (by decide +kernel), List.mem_of_getElem? (i := 802) (by decide +kernel)⟩
theorem lw_p53 : lw_okq (⟨"TeethForCoinsModel", "readTooth", "(Z)Z"⟩, 48) := ⟨⟨by decide +kernel, by decide +kernel⟩, List.mem_of_getElem? (i := 625) (by decide +kernel), List.mem_of_getElem? (i := 805) (by decide +kernel), List.mem_of_getElem? (i := 806) (by decide +kernel)⟩
theorem lw_p54 : lw_okq (⟨"TeethForCoinsModel", "side", "()I"⟩, 48) := ⟨⟨by decide +kernel, by decide +kernel⟩, List.mem_of_getElem? (i := 625) (by decide +kernel), List.mem_of_getElem? (i := 809) (by decide +kernel), List.mem_of_getElem? (i := 810) (by decide +kernel)⟩
theorem lw_p55 : lw_okq (⟨"TeethForCoinsModel", "readGood", "()Z"⟩, 48) := ⟨⟨by decide +kernel, by decide +kernel⟩, List.mem_of_getElem? (i := 625) (by decide +kernel), List.mem_of_getElem? (i := 813) (by decide +kernel), List.mem_of_getElem? (i := 814) (by decide +kernel)⟩
theorem lw_p56 : lw_okq (⟨"TeethForCoinsModel", "come", "(I)V"⟩, 48) := ⟨⟨by decide +kernel, by decide +kernel⟩, List.mem_of_getElem? (i := 625) (by decide +kernel), List.mem_of_getElem? (i := 821) (by decide +kernel), List.mem_of_getElem? (i := 822) (by decide +kernel)⟩
theorem lw_p57 : lw_okq (⟨"TeethForCoinsModel", "fakes", "()I"⟩, 48) := ⟨⟨by decide +kernel, by decide +kernel⟩, List.mem_of_getElem? (i := 625) (by decide +kernel), List.mem_of_getElem? (i := 829) (by decide +kernel), List.mem_of_getElem? (i := 830) (by decide +kernel)⟩
theorem lw_p58 : lw_okq (⟨"TeethForCoinsModel", "noTooth", "(I)Z"⟩, 48) := ⟨⟨by decide +kernel, by decide +kernel⟩, List.mem_of_getElem? (i := 625) (by decide +kernel), List.mem_of_getElem? (i := 837) (by decide +kernel), List.mem_of_getElem? (i := 838) (by decide +kernel)⟩
theorem lw_p59 : lw_okq (⟨"TeethForCoinsModel", "worth", "(I)I"⟩, 48) := ⟨⟨by decide +kernel, by decide +kernel⟩, List.mem_of_getElem? (i := 625) (by decide +kernel), List.mem_of_getElem? (i := 841) (by decide +kernel), List.mem_of_getElem? (i := 842) (by decide +kernel)⟩
theorem lw_p60 : lw_okq (⟨"TeethForCoinsModel", "worthBy", "(II)I"⟩, 48) := ⟨⟨by decide +kernel, by decide +kernel⟩, List.mem_of_getElem? (i := 625) (by decide +kernel), List.mem_of_getElem? (i := 845) (by decide +kernel), List.mem_of_getElem? (i := 846) (by decide +kernel)⟩
theorem lw_p61 : lw_okq (⟨"TeethForCoinsModel", "setOf", "(I)I"⟩, 48) := ⟨⟨by decide +kernel, by decide +kernel⟩, List.mem_of_getElem? (i := 625) (by decide +kernel), List.mem_of_getElem? (i := 861) (by decide +kernel), List.mem_of_getElem? (i := 862) (by decide +kernel)⟩
theorem lw_p62 : lw_okq (⟨"TeethForCoinsModel", "worthOf", "(I)I"⟩, 48) := ⟨⟨by decide +kernel, by decide +kernel⟩, List.mem_of_getElem? (i := 625) (by decide +kernel), List.mem_of_getElem? (i := 865) (by decide +kernel), List.mem_of_getElem? (i := 866) (by decide +kernel)⟩
theorem lw_p63 : lw_okq (⟨"TeethForCoinsModel", "goHandle", "(I)V"⟩, 48) := ⟨⟨by decide +kernel, by decide +kernel⟩, List.mem_of_getElem? (i := 625) (by decide +kernel), List.mem_of_getElem? (i := 876) (by decide +kernel), List.mem_of_getElem? (i := 877) (by decide +kernel)⟩
def lw_privs_4 : List (MethodName × Nat) := [(⟨"TeethForCoins$Rates", "copyFrom", "(LTeethForCoins$Rates;)V"⟩, 2), (⟨"TeethForCoins$Slot", "giveOut", "(LTeethForCoins$Teeth;LTeethForCoins$Bargains;LTeethForCoins$Rates;)V"⟩, 4), (⟨"TeethForCoinsModel", "readMarket", "()I"⟩, 48), (⟨"TeethForCoinsModel", "figure", "(II)I"⟩, 48), (⟨"TeethForCoinsModel", "readPart", "()Z"⟩, 48), (⟨"TeethForCoinsModel", "readTooth", "(Z)Z"⟩, 48), (⟨"TeethForCoinsModel", "side", "()I"⟩, 48), (⟨"TeethForCoinsModel", "readGood", "()Z"⟩, 48), (⟨"TeethForCoinsModel", "come", "(I)V"⟩, 48), (⟨"TeethForCoinsModel", "fakes", "()I"⟩, 48), (⟨"TeethForCoinsModel", "noTooth", "(I)Z"⟩, 48), (⟨"TeethForCoinsModel", "worth", "(I)I"⟩, 48), (⟨"TeethForCoinsModel", "worthBy", "(II)I"⟩, 48), (⟨"TeethForCoinsModel", "setOf", "(I)I"⟩, 48), (⟨"TeethForCoinsModel", "worthOf", "(I)I"⟩, 48), (⟨"TeethForCoinsModel", "goHandle", "(I)V"⟩, 48)]
theorem lw_r4 : ∀ q ∈ lw_privs_4, lw_okq q := List.forall_mem_cons.mpr ⟨lw_p48, List.forall_mem_cons.mpr ⟨lw_p49, List.forall_mem_cons.mpr ⟨lw_p50, List.forall_mem_cons.mpr ⟨lw_p51, List.forall_mem_cons.mpr ⟨lw_p52, List.forall_mem_cons.mpr ⟨lw_p53, List.forall_mem_cons.mpr ⟨lw_p54, List.forall_mem_cons.mpr ⟨lw_p55, List.forall_mem_cons.mpr ⟨lw_p56, List.forall_mem_cons.mpr ⟨lw_p57, List.forall_mem_cons.mpr ⟨lw_p58, List.forall_mem_cons.mpr ⟨lw_p59, List.forall_mem_cons.mpr ⟨lw_p60, List.forall_mem_cons.mpr ⟨lw_p61, List.forall_mem_cons.mpr ⟨lw_p62, List.forall_mem_cons.mpr ⟨lw_p63, fun _ h => absurd h List.not_mem_nil⟩⟩⟩⟩⟩⟩⟩⟩⟩⟩⟩⟩⟩⟩⟩⟩
theorem lw_p64 : lw_okq (⟨"TeethForCoinsModel", "findFewest", "(III)I"⟩, 48) := ⟨⟨by decide +kernel, by decide +kernel⟩, List.mem_of_getElem? (i := 625) (by decide +kernel), List.mem_of_getElem? (i := 892) (by decide +kernel), List.mem_of_getElem? (i := 893) (by decide +kernel)⟩
theorem lw_p65 : lw_okq (⟨"TeethForCoinsModel", "lay", "([II)V"⟩, 48) := ⟨⟨by decide +kernel, by decide +kernel⟩, List.mem_of_getElem? (i := 625) (by decide +kernel), List.mem_of_getElem? (i := 910) (by decide +kernel), List.mem_of_getElem? (i := 911) (by decide +kernel)⟩
theorem lw_p66 : lw_okq (⟨"TeethForCoinsModel", "goOver", "(II)V"⟩, 48) := ⟨⟨by decide +kernel, by decide +kernel⟩, List.mem_of_getElem? (i := 625) (by decide +kernel), List.mem_of_getElem? (i := 914) (by decide +kernel), List.mem_of_getElem? (i := 915) (by decide +kernel)⟩
theorem lw_p67 : lw_okq (⟨"TeethForCoinsModel", "take", "([II)V"⟩, 48) := ⟨⟨by decide +kernel, by decide +kernel⟩, List.mem_of_getElem? (i := 625) (by decide +kernel), List.mem_of_getElem? (i := 922) (by decide +kernel), List.mem_of_getElem? (i := 923) (by decide +kernel)⟩
theorem lw_p68 : lw_okq (⟨"TeethForCoinsModel", "findMuch", "(II)I"⟩, 48) := ⟨⟨by decide +kernel, by decide +kernel⟩, List.mem_of_getElem? (i := 625) (by decide +kernel), List.mem_of_getElem? (i := 930) (by decide +kernel), List.mem_of_getElem? (i := 931) (by decide +kernel)⟩
theorem lw_p69 : lw_okq (⟨"TeethForCoinsModel", "add", "(IJ)V"⟩, 48) := ⟨⟨by decide +kernel, by decide +kernel⟩, List.mem_of_getElem? (i := 625) (by decide +kernel), List.mem_of_getElem? (i := 951) (by decide +kernel), List.mem_of_getElem? (i := 952) (by decide +kernel)⟩
theorem lw_p70 : lw_okq (⟨"TeethForCoinsModel", "findRing", "()V"⟩, 48) := ⟨⟨by decide +kernel, by decide +kernel⟩, List.mem_of_getElem? (i := 625) (by decide +kernel), List.mem_of_getElem? (i := 1004) (by decide +kernel), List.mem_of_getElem? (i := 1005) (by decide +kernel)⟩
theorem lw_p71 : lw_okq (⟨"TeethForCoinsModel", "layRing", "(II)Z"⟩, 48) := ⟨⟨by decide +kernel, by decide +kernel⟩, List.mem_of_getElem? (i := 625) (by decide +kernel), List.mem_of_getElem? (i := 1008) (by decide +kernel), List.mem_of_getElem? (i := 1009) (by decide +kernel)⟩
theorem lw_p72 : lw_okq (⟨"TeethForCoinsModel", "stolenSet", "()I"⟩, 48) := ⟨⟨by decide +kernel, by decide +kernel⟩, List.mem_of_getElem? (i := 625) (by decide +kernel), List.mem_of_getElem? (i := 1024) (by decide +kernel), List.mem_of_getElem? (i := 1025) (by decide +kernel)⟩
def lw_privs_5 : List (MethodName × Nat) := [(⟨"TeethForCoinsModel", "findFewest", "(III)I"⟩, 48), (⟨"TeethForCoinsModel", "lay", "([II)V"⟩, 48), (⟨"TeethForCoinsModel", "goOver", "(II)V"⟩, 48), (⟨"TeethForCoinsModel", "take", "([II)V"⟩, 48), (⟨"TeethForCoinsModel", "findMuch", "(II)I"⟩, 48), (⟨"TeethForCoinsModel", "add", "(IJ)V"⟩, 48), (⟨"TeethForCoinsModel", "findRing", "()V"⟩, 48), (⟨"TeethForCoinsModel", "layRing", "(II)Z"⟩, 48), (⟨"TeethForCoinsModel", "stolenSet", "()I"⟩, 48)]
theorem lw_r5 : ∀ q ∈ lw_privs_5, lw_okq q := List.forall_mem_cons.mpr ⟨lw_p64, List.forall_mem_cons.mpr ⟨lw_p65, List.forall_mem_cons.mpr ⟨lw_p66, List.forall_mem_cons.mpr ⟨lw_p67, List.forall_mem_cons.mpr ⟨lw_p68, List.forall_mem_cons.mpr ⟨lw_p69, List.forall_mem_cons.mpr ⟨lw_p70, List.forall_mem_cons.mpr ⟨lw_p71, List.forall_mem_cons.mpr ⟨lw_p72, fun _ h => absurd h List.not_mem_nil⟩⟩⟩⟩⟩⟩⟩⟩⟩
def lw_privs : List (MethodName × Nat) := lw_privs_1 ++ (lw_privs_2 ++ (lw_privs_3 ++ (lw_privs_4 ++ (lw_privs_5))))
def lw_tbl : List Cond := k2_sels lw_privs ++ tables_1
theorem lw_privs_ok : ∀ q ∈ lw_privs, lw_okq q := by
  show ∀ q ∈ lw_privs_1 ++ (lw_privs_2 ++ (lw_privs_3 ++ (lw_privs_4 ++ (lw_privs_5)))), lw_okq q
  exact List.forall_mem_append.mpr ⟨lw_r1, List.forall_mem_append.mpr ⟨lw_r2, List.forall_mem_append.mpr ⟨lw_r3, List.forall_mem_append.mpr ⟨lw_r4, lw_r5⟩⟩⟩⟩
-- ===== end of PART A; then your names; then what follows =====
/-! ===== BEGIN printed: names, fields, word lists, decode rows ===== -/
def RX0 : String := "TeethForCoins$Bargains"
def TX0 : u_T := fun k => match k with
  | 0 => ("TeethForCoins$Bargains", "ahead", "[LTeethForCoins$Teeth;", true)
  | _ => ("TeethForCoins$Bargains", "made", "I", false)
def tyX0 : Nat → FieldType := fun k => match k with
  | 0 => .array (.object "TeethForCoins$Teeth")
  | _ => .int
abbrev wsX00 : List Cond := u_ws RX0 TX0 2
theorem nmX0 : ∀ a, a < 2 → ∀ b, b < 2 → a ≠ b → (TX0 a).2.1 ≠ (TX0 b).2.1 := by decide +kernel
theorem tyX0_ok : ∀ k, k < 2 → parseFieldDescriptor (TX0 k).2.2.1 = some (tyX0 k) := by decide +kernel
abbrev cX0_init : ByteArray := prog_2_method_1_code
def yX0_init : MethodName := ⟨RX0, "<init>", "()V"⟩
abbrev cX0_remember : ByteArray := prog_2_method_2_code
def yX0_remember : MethodName := ⟨RX0, "remember", "(LTeethForCoins$Teeth;)V"⟩
abbrev cX0_takeBack : ByteArray := prog_2_method_3_code
def yX0_takeBack : MethodName := ⟨RX0, "takeBack", "(LTeethForCoins$Teeth;)V"⟩
abbrev cX0_copyFrom : ByteArray := prog_2_method_4_code
def yX0_copyFrom : MethodName := ⟨RX0, "copyFrom", "(LTeethForCoins$Bargains;)V"⟩
def RX1 : String := "TeethForCoins$Goods"
def TX1 : u_T := fun k => match k with
  | 0 => ("TeethForCoins$Goods", "prices", "[I", true)
  | 1 => ("TeethForCoins$Goods", "uses", "[I", true)
  | _ => ("TeethForCoins$Goods", "count", "I", false)
def tyX1 : Nat → FieldType := fun k => match k with
  | 0 => .array .int
  | 1 => .array .int
  | _ => .int
abbrev wsX10 : List Cond := u_ws RX1 TX1 3
theorem nmX1 : ∀ a, a < 3 → ∀ b, b < 3 → a ≠ b → (TX1 a).2.1 ≠ (TX1 b).2.1 := by decide +kernel
theorem tyX1_ok : ∀ k, k < 3 → parseFieldDescriptor (TX1 k).2.2.1 = some (tyX1 k) := by decide +kernel
abbrev cX1_init : ByteArray := prog_3_method_1_code
def yX1_init : MethodName := ⟨RX1, "<init>", "()V"⟩
abbrev cX1_add : ByteArray := prog_3_method_2_code
def yX1_add : MethodName := ⟨RX1, "add", "(II)V"⟩
abbrev cX1_priceOf : ByteArray := prog_3_method_3_code
def yX1_priceOf : MethodName := ⟨RX1, "priceOf", "(I)I"⟩
abbrev cX1_useOf : ByteArray := prog_3_method_4_code
def yX1_useOf : MethodName := ⟨RX1, "useOf", "(I)I"⟩
abbrev cX1_priceOfSet : ByteArray := prog_3_method_5_code
def yX1_priceOfSet : MethodName := ⟨RX1, "priceOfSet", "(I)I"⟩
abbrev cX1_useOfSet : ByteArray := prog_3_method_6_code
def yX1_useOfSet : MethodName := ⟨RX1, "useOfSet", "(I)I"⟩
def RX2 : String := "TeethForCoins$Least"
def TX2 : u_T := fun k => match k with
  | 0 => ("TeethForCoins$Least", "found", "Z", false)
  | 1 => ("TeethForCoins$Least", "first", "I", false)
  | 2 => ("TeethForCoins$Least", "second", "I", false)
  | _ => ("TeethForCoins$Least", "third", "I", false)
def tyX2 : Nat → FieldType := fun k => match k with
  | 0 => .boolean
  | 1 => .int
  | 2 => .int
  | _ => .int
abbrev wsX20 : List Cond := u_ws RX2 TX2 4
theorem nmX2 : ∀ a, a < 4 → ∀ b, b < 4 → a ≠ b → (TX2 a).2.1 ≠ (TX2 b).2.1 := by decide +kernel
theorem tyX2_ok : ∀ k, k < 4 → parseFieldDescriptor (TX2 k).2.2.1 = some (tyX2 k) := by decide +kernel
abbrev cX2_init : ByteArray := prog_4_method_1_code
def yX2_init : MethodName := ⟨RX2, "<init>", "()V"⟩
abbrev cX2_clear : ByteArray := prog_4_method_2_code
def yX2_clear : MethodName := ⟨RX2, "clear", "()V"⟩
abbrev cX2_offer : ByteArray := prog_4_method_3_code
def yX2_offer : MethodName := ⟨RX2, "offer", "(III)V"⟩
def RX3 : String := "TeethForCoins$Rates"
def TX3 : u_T := fun k => match k with
  | 0 => ("TeethForCoins$Rates", "got", "[I", true)
  | _ => ("TeethForCoins$Rates", "given", "[I", true)
def tyX3 : Nat → FieldType := fun k => match k with
  | 0 => .array .int
  | _ => .array .int
abbrev wsX30 : List Cond := u_ws RX3 TX3 2
theorem nmX3 : ∀ a, a < 2 → ∀ b, b < 2 → a ≠ b → (TX3 a).2.1 ≠ (TX3 b).2.1 := by decide +kernel
theorem tyX3_ok : ∀ k, k < 2 → parseFieldDescriptor (TX3 k).2.2.1 = some (tyX3 k) := by decide +kernel
abbrev cX3_init : ByteArray := prog_5_method_1_code
def yX3_init : MethodName := ⟨RX3, "<init>", "()V"⟩
abbrev cX3_gotFor : ByteArray := prog_5_method_2_code
def yX3_gotFor : MethodName := ⟨RX3, "gotFor", "(II)I"⟩
abbrev cX3_givenFor : ByteArray := prog_5_method_3_code
def yX3_givenFor : MethodName := ⟨RX3, "givenFor", "(II)I"⟩
abbrev cX3_put : ByteArray := prog_5_method_4_code
def yX3_put : MethodName := ⟨RX3, "put", "(IIII)V"⟩
abbrev cX3_copyFrom : ByteArray := prog_5_method_5_code
def yX3_copyFrom : MethodName := ⟨RX3, "copyFrom", "(LTeethForCoins$Rates;)V"⟩
def RX4 : String := "TeethForCoins$Ring"
def TX4 : u_T := fun k => match k with
  | 0 => ("TeethForCoins$Ring", "code", "I", false)
  | 1 => ("TeethForCoins$Ring", "many", "I", false)
  | 2 => ("TeethForCoins$Ring", "got", "J", false)
  | _ => ("TeethForCoins$Ring", "given", "J", false)
def tyX4 : Nat → FieldType := fun k => match k with
  | 0 => .int
  | 1 => .int
  | 2 => .long
  | _ => .long
abbrev wsX40 : List Cond := u_ws RX4 TX4 4
theorem nmX4 : ∀ a, a < 4 → ∀ b, b < 4 → a ≠ b → (TX4 a).2.1 ≠ (TX4 b).2.1 := by decide +kernel
theorem tyX4_ok : ∀ k, k < 4 → parseFieldDescriptor (TX4 k).2.2.1 = some (tyX4 k) := by decide +kernel
abbrev cX4_init : ByteArray := prog_6_method_1_code
def yX4_init : MethodName := ⟨RX4, "<init>", "()V"⟩
abbrev cX4_clear : ByteArray := prog_6_method_2_code
def yX4_clear : MethodName := ⟨RX4, "clear", "()V"⟩
abbrev cX4_moneyAt : ByteArray := prog_6_method_3_code
def yX4_moneyAt : MethodName := ⟨RX4, "moneyAt", "(III)I"⟩
abbrev cX4_isRing : ByteArray := prog_6_method_4_code
def yX4_isRing : MethodName := ⟨RX4, "isRing", "(II)Z"⟩
abbrev cX4_offer : ByteArray := prog_6_method_5_code
def yX4_offer : MethodName := ⟨RX4, "offer", "(LTeethForCoins$Rates;II)V"⟩
def RX5 : String := "TeethForCoins$Slot"
def TX5 : u_T := fun k => match k with
  | 0 => ("TeethForCoins$Slot", "teeth", "LTeethForCoins$Teeth;", true)
  | 1 => ("TeethForCoins$Slot", "bargains", "LTeethForCoins$Bargains;", true)
  | 2 => ("TeethForCoins$Slot", "rates", "LTeethForCoins$Rates;", true)
  | _ => ("TeethForCoins$Slot", "full", "Z", false)
def tyX5 : Nat → FieldType := fun k => match k with
  | 0 => .object "TeethForCoins$Teeth"
  | 1 => .object "TeethForCoins$Bargains"
  | 2 => .object "TeethForCoins$Rates"
  | _ => .boolean
abbrev wsX50 : List Cond := u_ws RX5 TX5 4
theorem nmX5 : ∀ a, a < 4 → ∀ b, b < 4 → a ≠ b → (TX5 a).2.1 ≠ (TX5 b).2.1 := by decide +kernel
theorem tyX5_ok : ∀ k, k < 4 → parseFieldDescriptor (TX5 k).2.2.1 = some (tyX5 k) := by decide +kernel
abbrev cX5_init : ByteArray := prog_7_method_1_code
def yX5_init : MethodName := ⟨RX5, "<init>", "()V"⟩
abbrev cX5_takeIn : ByteArray := prog_7_method_2_code
def yX5_takeIn : MethodName := ⟨RX5, "takeIn", "(LTeethForCoins$Teeth;LTeethForCoins$Bargains;LTeethForCoins$Rates;)V"⟩
abbrev cX5_giveOut : ByteArray := prog_7_method_3_code
def yX5_giveOut : MethodName := ⟨RX5, "giveOut", "(LTeethForCoins$Teeth;LTeethForCoins$Bargains;LTeethForCoins$Rates;)V"⟩
def RX6 : String := "TeethForCoins$Teeth"
def TX6 : u_T := fun k => match k with
  | 0 => ("TeethForCoins$Teeth", "cells", "[I", true)
  | _ => ("TeethForCoins$Teeth", "count", "I", false)
def tyX6 : Nat → FieldType := fun k => match k with
  | 0 => .array .int
  | _ => .int
abbrev wsX60 : List Cond := u_ws RX6 TX6 2
theorem nmX6 : ∀ a, a < 2 → ∀ b, b < 2 → a ≠ b → (TX6 a).2.1 ≠ (TX6 b).2.1 := by decide +kernel
theorem tyX6_ok : ∀ k, k < 2 → parseFieldDescriptor (TX6 k).2.2.1 = some (tyX6 k) := by decide +kernel
abbrev cX6_init : ByteArray := prog_8_method_1_code
def yX6_init : MethodName := ⟨RX6, "<init>", "()V"⟩
abbrev cX6_get : ByteArray := prog_8_method_2_code
def yX6_get : MethodName := ⟨RX6, "get", "(II)I"⟩
abbrev cX6_set : ByteArray := prog_8_method_3_code
def yX6_set : MethodName := ⟨RX6, "set", "(III)V"⟩
abbrev cX6_add : ByteArray := prog_8_method_4_code
def yX6_add : MethodName := ⟨RX6, "add", "(IZI)I"⟩
abbrev cX6_passTo : ByteArray := prog_8_method_5_code
def yX6_passTo : MethodName := ⟨RX6, "passTo", "(II)V"⟩
abbrev cX6_traceOf : ByteArray := prog_8_method_6_code
def yX6_traceOf : MethodName := ⟨RX6, "traceOf", "(II)I"⟩
abbrev cX6_wearDown : ByteArray := prog_8_method_7_code
def yX6_wearDown : MethodName := ⟨RX6, "wearDown", "(I)V"⟩
abbrev cX6_ownedBy : ByteArray := prog_8_method_8_code
def yX6_ownedBy : MethodName := ⟨RX6, "ownedBy", "(I)I"⟩
abbrev cX6_fakes : ByteArray := prog_8_method_9_code
def yX6_fakes : MethodName := ⟨RX6, "fakes", "()I"⟩
abbrev cX6_wearTooMuch : ByteArray := prog_8_method_10_code
def yX6_wearTooMuch : MethodName := ⟨RX6, "wearTooMuch", "(I)I"⟩
abbrev cX6_wearTooMuchOf : ByteArray := prog_8_method_11_code
def yX6_wearTooMuchOf : MethodName := ⟨RX6, "wearTooMuchOf", "(I)I"⟩
abbrev cX6_copyFrom : ByteArray := prog_8_method_12_code
def yX6_copyFrom : MethodName := ⟨RX6, "copyFrom", "(LTeethForCoins$Teeth;)V"⟩
abbrev cX6_takeBack : ByteArray := prog_8_method_13_code
def yX6_takeBack : MethodName := ⟨RX6, "takeBack", "(LTeethForCoins$Teeth;)V"⟩
abbrev cX6_copyCells : ByteArray := prog_8_method_14_code
def yX6_copyCells : MethodName := ⟨RX6, "copyCells", "(LTeethForCoins$Teeth;II)V"⟩
def RX7 : String := "TeethForCoins$Text"
def TX7 : u_T := fun k => match k with
  | 0 => ("TeethForCoins$Text", "bytes", "[B", true)
  | _ => ("TeethForCoins$Text", "length", "I", false)
def tyX7 : Nat → FieldType := fun k => match k with
  | 0 => .array .byte
  | _ => .int
abbrev wsX70 : List Cond := u_ws RX7 TX7 2
theorem nmX7 : ∀ a, a < 2 → ∀ b, b < 2 → a ≠ b → (TX7 a).2.1 ≠ (TX7 b).2.1 := by decide +kernel
theorem tyX7_ok : ∀ k, k < 2 → parseFieldDescriptor (TX7 k).2.2.1 = some (tyX7 k) := by decide +kernel
abbrev cX7_init : ByteArray := prog_9_method_1_code
def yX7_init : MethodName := ⟨RX7, "<init>", "()V"⟩
abbrev cX7_append : ByteArray := prog_9_method_2_code
def yX7_append : MethodName := ⟨RX7, "append", "(B)V"⟩
abbrev cX7_byteAt : ByteArray := prog_9_method_3_code
def yX7_byteAt : MethodName := ⟨RX7, "byteAt", "(I)I"⟩
abbrev cX7_figureAt : ByteArray := prog_9_method_4_code
def yX7_figureAt : MethodName := ⟨RX7, "figureAt", "(I)I"⟩
abbrev cX7_tellsTooth : ByteArray := prog_9_method_5_code
def yX7_tellsTooth : MethodName := ⟨RX7, "tellsTooth", "(I)Z"⟩
abbrev cX7_partLength : ByteArray := prog_9_method_6_code
def yX7_partLength : MethodName := ⟨RX7, "partLength", "(I)I"⟩
abbrev cX7_faultPlace : ByteArray := prog_9_method_7_code
def yX7_faultPlace : MethodName := ⟨RX7, "faultPlace", "()I"⟩
abbrev cX7_mayBegin : ByteArray := prog_9_method_8_code
def yX7_mayBegin : MethodName := ⟨RX7, "mayBegin", "(III)Z"⟩
abbrev cX7_mayFollow : ByteArray := prog_9_method_9_code
def yX7_mayFollow : MethodName := ⟨RX7, "mayFollow", "(III)Z"⟩
def RX8 : String := "TeethForCoins"
def TX8 : u_T := fun k => match k with
  | 0 => ("TeethForCoins", "text", "LTeethForCoins$Text;", true)
  | 1 => ("TeethForCoins", "teeth", "LTeethForCoins$Teeth;", true)
  | 2 => ("TeethForCoins", "goods", "LTeethForCoins$Goods;", true)
  | 3 => ("TeethForCoins", "bargains", "LTeethForCoins$Bargains;", true)
  | 4 => ("TeethForCoins", "rates", "LTeethForCoins$Rates;", true)
  | 5 => ("TeethForCoins", "slots", "[LTeethForCoins$Slot;", true)
  | 6 => ("TeethForCoins", "lossByWear", "I", false)
  | 7 => ("TeethForCoins", "timesOfLeft", "I", false)
  | 8 => ("TeethForCoins", "least", "LTeethForCoins$Least;", true)
  | 9 => ("TeethForCoins", "best", "LTeethForCoins$Ring;", true)
  | 10 => ("TeethForCoins", "balances", "[I", true)
  | _ => ("TeethForCoins", "payable", "[I", true)
def tyX8 : Nat → FieldType := fun k => match k with
  | 0 => .object "TeethForCoins$Text"
  | 1 => .object "TeethForCoins$Teeth"
  | 2 => .object "TeethForCoins$Goods"
  | 3 => .object "TeethForCoins$Bargains"
  | 4 => .object "TeethForCoins$Rates"
  | 5 => .array (.object "TeethForCoins$Slot")
  | 6 => .int
  | 7 => .int
  | 8 => .object "TeethForCoins$Least"
  | 9 => .object "TeethForCoins$Ring"
  | 10 => .array .int
  | _ => .array .int
abbrev wsX80 : List Cond := u_ws RX8 TX8 12
theorem nmX8 : ∀ a, a < 12 → ∀ b, b < 12 → a ≠ b → (TX8 a).2.1 ≠ (TX8 b).2.1 := by decide +kernel
theorem tyX8_ok : ∀ k, k < 12 → parseFieldDescriptor (TX8 k).2.2.1 = some (tyX8 k) := by decide +kernel
abbrev cX8_init : ByteArray := prog_1_method_1_code
def yX8_init : MethodName := ⟨RX8, "<init>", "()V"⟩
abbrev cX8_write : ByteArray := prog_1_method_2_code
def yX8_write : MethodName := ⟨RX8, "write", "(IJ)I"⟩
abbrev cX8_wipe : ByteArray := prog_1_method_3_code
def yX8_wipe : MethodName := ⟨RX8, "wipe", "()I"⟩
abbrev cX8_fault : ByteArray := prog_1_method_4_code
def yX8_fault : MethodName := ⟨RX8, "fault", "()I"⟩
abbrev cX8_market : ByteArray := prog_1_method_5_code
def yX8_market : MethodName := ⟨RX8, "market", "()I"⟩
abbrev cX8_about : ByteArray := prog_1_method_6_code
def yX8_about : MethodName := ⟨RX8, "about", "(I)I"⟩
abbrev cX8_tooth : ByteArray := prog_1_method_7_code
def yX8_tooth : MethodName := ⟨RX8, "tooth", "(II)I"⟩
abbrev cX8_good : ByteArray := prog_1_method_8_code
def yX8_good : MethodName := ⟨RX8, "good", "(II)I"⟩
abbrev cX8_purse : ByteArray := prog_1_method_9_code
def yX8_purse : MethodName := ⟨RX8, "purse", "(I)I"⟩
abbrev cX8_handle : ByteArray := prog_1_method_10_code
def yX8_handle : MethodName := ⟨RX8, "handle", "(I)I"⟩
abbrev cX8_bite : ByteArray := prog_1_method_11_code
def yX8_bite : MethodName := ⟨RX8, "bite", "(I)I"⟩
abbrev cX8_fewest : ByteArray := prog_1_method_12_code
def yX8_fewest : MethodName := ⟨RX8, "fewest", "(III)I"⟩
abbrev cX8_paid : ByteArray := prog_1_method_13_code
def yX8_paid : MethodName := ⟨RX8, "paid", "(IIIZ)I"⟩
abbrev cX8_pay : ByteArray := prog_1_method_14_code
def yX8_pay : MethodName := ⟨RX8, "pay", "(III)I"⟩
abbrev cX8_undo : ByteArray := prog_1_method_15_code
def yX8_undo : MethodName := ⟨RX8, "undo", "()I"⟩
abbrev cX8_tooMuch : ByteArray := prog_1_method_16_code
def yX8_tooMuch : MethodName := ⟨RX8, "tooMuch", "(IIZ)I"⟩
abbrev cX8_sums : ByteArray := prog_1_method_17_code
def yX8_sums : MethodName := ⟨RX8, "sums", "(III)I"⟩
abbrev cX8_spent : ByteArray := prog_1_method_18_code
def yX8_spent : MethodName := ⟨RX8, "spent", "(IZ)I"⟩
abbrev cX8_caught : ByteArray := prog_1_method_19_code
def yX8_caught : MethodName := ⟨RX8, "caught", "(IJ)I"⟩
abbrev cX8_washed : ByteArray := prog_1_method_20_code
def yX8_washed : MethodName := ⟨RX8, "washed", "(IJ)I"⟩
abbrev cX8_life : ByteArray := prog_1_method_21_code
def yX8_life : MethodName := ⟨RX8, "life", "(II)I"⟩
abbrev cX8_trace : ByteArray := prog_1_method_22_code
def yX8_trace : MethodName := ⟨RX8, "trace", "(II)I"⟩
abbrev cX8_inflated : ByteArray := prog_1_method_23_code
def yX8_inflated : MethodName := ⟨RX8, "inflated", "(II)I"⟩
abbrev cX8_doubt : ByteArray := prog_1_method_24_code
def yX8_doubt : MethodName := ⟨RX8, "doubt", "(IIIIIZ)J"⟩
abbrev cX8_among : ByteArray := prog_1_method_25_code
def yX8_among : MethodName := ⟨RX8, "among", "(IIIZ)J"⟩
abbrev cX8_rate : ByteArray := prog_1_method_26_code
def yX8_rate : MethodName := ⟨RX8, "rate", "(IIII)I"⟩
abbrev cX8_ring : ByteArray := prog_1_method_27_code
def yX8_ring : MethodName := ⟨RX8, "ring", "(Z)J"⟩
abbrev cX8_ringAt : ByteArray := prog_1_method_28_code
def yX8_ringAt : MethodName := ⟨RX8, "ringAt", "(I)I"⟩
abbrev cX8_should : ByteArray := prog_1_method_29_code
def yX8_should : MethodName := ⟨RX8, "should", "(II)I"⟩
abbrev cX8_stolen : ByteArray := prog_1_method_30_code
def yX8_stolen : MethodName := ⟨RX8, "stolen", "()I"⟩
abbrev cX8_thief : ByteArray := prog_1_method_31_code
def yX8_thief : MethodName := ⟨RX8, "thief", "()I"⟩
abbrev cX8_keep : ByteArray := prog_1_method_32_code
def yX8_keep : MethodName := ⟨RX8, "keep", "(I)I"⟩
abbrev cX8_again : ByteArray := prog_1_method_33_code
def yX8_again : MethodName := ⟨RX8, "again", "(I)I"⟩
abbrev cX8_isTooth : ByteArray := prog_1_method_34_code
def yX8_isTooth : MethodName := ⟨RX8, "isTooth", "(I)Z"⟩
abbrev cX8_isGood : ByteArray := prog_1_method_35_code
def yX8_isGood : MethodName := ⟨RX8, "isGood", "(I)Z"⟩
abbrev cX8_isSlot : ByteArray := prog_1_method_36_code
def yX8_isSlot : MethodName := ⟨RX8, "isSlot", "(I)Z"⟩
abbrev cX8_isPerson : ByteArray := prog_1_method_37_code
def yX8_isPerson : MethodName := ⟨RX8, "isPerson", "(I)Z"⟩
abbrev cX8_isMoney : ByteArray := prog_1_method_38_code
def yX8_isMoney : MethodName := ⟨RX8, "isMoney", "(I)Z"⟩
abbrev cX8_isPrice : ByteArray := prog_1_method_39_code
def yX8_isPrice : MethodName := ⟨RX8, "isPrice", "(I)Z"⟩
abbrev cX8_isTenths : ByteArray := prog_1_method_40_code
def yX8_isTenths : MethodName := ⟨RX8, "isTenths", "(I)Z"⟩
abbrev cX8_paymentRefusal : ByteArray := prog_1_method_41_code
def yX8_paymentRefusal : MethodName := ⟨RX8, "paymentRefusal", "(III)I"⟩
abbrev cX8_readPart : ByteArray := prog_1_method_42_code
def yX8_readPart : MethodName := ⟨RX8, "readPart", "(I)V"⟩
abbrev cX8_worthWorn : ByteArray := prog_1_method_43_code
def yX8_worthWorn : MethodName := ⟨RX8, "worthWorn", "(II)I"⟩
abbrev cX8_worthOf : ByteArray := prog_1_method_44_code
def yX8_worthOf : MethodName := ⟨RX8, "worthOf", "(I)I"⟩
abbrev cX8_worthOfSet : ByteArray := prog_1_method_45_code
def yX8_worthOfSet : MethodName := ⟨RX8, "worthOfSet", "(I)I"⟩
abbrev cX8_setsOfTeeth : ByteArray := prog_1_method_46_code
def yX8_setsOfTeeth : MethodName := ⟨RX8, "setsOfTeeth", "()I"⟩
abbrev cX8_weighSets : ByteArray := prog_1_method_47_code
def yX8_weighSets : MethodName := ⟨RX8, "weighSets", "(I)V"⟩
abbrev cX8_seekFewest : ByteArray := prog_1_method_48_code
def yX8_seekFewest : MethodName := ⟨RX8, "seekFewest", "(III)V"⟩
abbrev cX8_seekTooMuch : ByteArray := prog_1_method_49_code
def yX8_seekTooMuch : MethodName := ⟨RX8, "seekTooMuch", "(II)V"⟩
abbrev cX8_handOver : ByteArray := prog_1_method_50_code
def yX8_handOver : MethodName := ⟨RX8, "handOver", "(II)V"⟩
abbrev cX8_drawFrom : ByteArray := prog_1_method_51_code
def yX8_drawFrom : MethodName := ⟨RX8, "drawFrom", "(J)J"⟩
abbrev cX8_addDrawn : ByteArray := prog_1_method_52_code
def yX8_addDrawn : MethodName := ⟨RX8, "addDrawn", "(IJ)V"⟩
abbrev cX8_power : ByteArray := prog_1_method_53_code
def yX8_power : MethodName := ⟨RX8, "power", "(JI)J"⟩
abbrev cX8_ofFraction : ByteArray := prog_1_method_54_code
def yX8_ofFraction : MethodName := ⟨RX8, "ofFraction", "(JJZ)J"⟩
abbrev cX8_commonDivisor : ByteArray := prog_1_method_55_code
def yX8_commonDivisor : MethodName := ⟨RX8, "commonDivisor", "(JJ)J"⟩
abbrev cX8_seekRing : ByteArray := prog_1_method_56_code
def yX8_seekRing : MethodName := ⟨RX8, "seekRing", "()V"⟩
def RX9 : String := "TeethForCoinsModel"
def TX9 : u_T := fun k => match k with
  | 0 => ("TeethForCoinsModel", "thrown", "I", false)
  | 1 => ("TeethForCoinsModel", "text", "[I", true)
  | 2 => ("TeethForCoinsModel", "textSize", "I", false)
  | 3 => ("TeethForCoinsModel", "place", "I", false)
  | 4 => ("TeethForCoinsModel", "loss", "I", false)
  | 5 => ("TeethForCoinsModel", "times", "I", false)
  | 6 => ("TeethForCoinsModel", "teeth", "I", false)
  | 7 => ("TeethForCoinsModel", "size", "[I", true)
  | 8 => ("TeethForCoinsModel", "left", "[Z", true)
  | 9 => ("TeethForCoinsModel", "wear", "[I", true)
  | 10 => ("TeethForCoinsModel", "owner", "[I", true)
  | 11 => ("TeethForCoinsModel", "fake", "[Z", true)
  | 12 => ("TeethForCoinsModel", "should", "[I", true)
  | 13 => ("TeethForCoinsModel", "traces", "[I", true)
  | 14 => ("TeethForCoinsModel", "trace", "[I", true)
  | 15 => ("TeethForCoinsModel", "goods", "I", false)
  | 16 => ("TeethForCoinsModel", "price", "[I", true)
  | 17 => ("TeethForCoinsModel", "use", "[I", true)
  | 18 => ("TeethForCoinsModel", "readLoss", "I", false)
  | 19 => ("TeethForCoinsModel", "readTimes", "I", false)
  | 20 => ("TeethForCoinsModel", "readTeeth", "I", false)
  | 21 => ("TeethForCoinsModel", "readGoods", "I", false)
  | 22 => ("TeethForCoinsModel", "readSize", "[I", true)
  | 23 => ("TeethForCoinsModel", "readLeft", "[Z", true)
  | 24 => ("TeethForCoinsModel", "readWear", "[I", true)
  | 25 => ("TeethForCoinsModel", "readOwner", "[I", true)
  | 26 => ("TeethForCoinsModel", "readFake", "[Z", true)
  | 27 => ("TeethForCoinsModel", "readPrice", "[I", true)
  | 28 => ("TeethForCoinsModel", "readUse", "[I", true)
  | 29 => ("TeethForCoinsModel", "book", "[I", true)
  | 30 => ("TeethForCoinsModel", "bargains", "I", false)
  | 31 => ("TeethForCoinsModel", "above", "[I", true)
  | 32 => ("TeethForCoinsModel", "below", "[I", true)
  | 33 => ("TeethForCoinsModel", "keptPage", "[I", true)
  | 34 => ("TeethForCoinsModel", "keptMore", "[I", true)
  | 35 => ("TeethForCoinsModel", "keptBook", "[I", true)
  | 36 => ("TeethForCoinsModel", "keptRates", "[I", true)
  | 37 => ("TeethForCoinsModel", "isKept", "[Z", true)
  | 38 => ("TeethForCoinsModel", "keptBargains", "[I", true)
  | 39 => ("TeethForCoinsModel", "paidSet", "I", false)
  | 40 => ("TeethForCoinsModel", "changeSet", "I", false)
  | 41 => ("TeethForCoinsModel", "bestSet", "I", false)
  | 42 => ("TeethForCoinsModel", "ring", "[I", true)
  | 43 => ("TeethForCoinsModel", "tried", "[I", true)
  | 44 => ("TeethForCoinsModel", "ringMany", "I", false)
  | 45 => ("TeethForCoinsModel", "ringUp", "J", false)
  | 46 => ("TeethForCoinsModel", "ringDown", "J", false)
  | _ => ("TeethForCoinsModel", "can", "[Z", true)
def tyX9 : Nat → FieldType := fun k => match k with
  | 0 => .int
  | 1 => .array .int
  | 2 => .int
  | 3 => .int
  | 4 => .int
  | 5 => .int
  | 6 => .int
  | 7 => .array .int
  | 8 => .array .boolean
  | 9 => .array .int
  | 10 => .array .int
  | 11 => .array .boolean
  | 12 => .array .int
  | 13 => .array .int
  | 14 => .array .int
  | 15 => .int
  | 16 => .array .int
  | 17 => .array .int
  | 18 => .int
  | 19 => .int
  | 20 => .int
  | 21 => .int
  | 22 => .array .int
  | 23 => .array .boolean
  | 24 => .array .int
  | 25 => .array .int
  | 26 => .array .boolean
  | 27 => .array .int
  | 28 => .array .int
  | 29 => .array .int
  | 30 => .int
  | 31 => .array .int
  | 32 => .array .int
  | 33 => .array .int
  | 34 => .array .int
  | 35 => .array .int
  | 36 => .array .int
  | 37 => .array .boolean
  | 38 => .array .int
  | 39 => .int
  | 40 => .int
  | 41 => .int
  | 42 => .array .int
  | 43 => .array .int
  | 44 => .int
  | 45 => .long
  | 46 => .long
  | _ => .array .boolean
abbrev wsX90 : List Cond := u_ws RX9 TX9 48
theorem nmX9 : ∀ a, a < 48 → ∀ b, b < 48 → a ≠ b → (TX9 a).2.1 ≠ (TX9 b).2.1 := by decide +kernel
theorem tyX9_ok : ∀ k, k < 48 → parseFieldDescriptor (TX9 k).2.2.1 = some (tyX9 k) := by decide +kernel
abbrev cX9_init : ByteArray := prog_11_method_1_code
def yX9_init : MethodName := ⟨RX9, "<init>", "()V"⟩
abbrev cX9_in : ByteArray := prog_11_method_3_code
def yX9_in : MethodName := ⟨RX9, "in", "(JJJ)Z"⟩
abbrev cX9_has : ByteArray := prog_11_method_4_code
def yX9_has : MethodName := ⟨RX9, "has", "(II)Z"⟩
abbrev cX9_many : ByteArray := prog_11_method_5_code
def yX9_many : MethodName := ⟨RX9, "many", "(I)I"⟩
abbrev cX9_noTooth : ByteArray := prog_11_method_6_code
def yX9_noTooth : MethodName := ⟨RX9, "noTooth", "(I)Z"⟩
abbrev cX9_noOne : ByteArray := prog_11_method_7_code
def yX9_noOne : MethodName := ⟨RX9, "noOne", "(I)Z"⟩
abbrev cX9_write : ByteArray := prog_11_method_8_code
def yX9_write : MethodName := ⟨RX9, "write", "(IJ)I"⟩
abbrev cX9_wipe : ByteArray := prog_11_method_9_code
def yX9_wipe : MethodName := ⟨RX9, "wipe", "()I"⟩
abbrev cX9_figure : ByteArray := prog_11_method_10_code
def yX9_figure : MethodName := ⟨RX9, "figure", "(II)I"⟩
abbrev cX9_side : ByteArray := prog_11_method_11_code
def yX9_side : MethodName := ⟨RX9, "side", "()I"⟩
abbrev cX9_readTooth : ByteArray := prog_11_method_12_code
def yX9_readTooth : MethodName := ⟨RX9, "readTooth", "(Z)Z"⟩
abbrev cX9_readGood : ByteArray := prog_11_method_13_code
def yX9_readGood : MethodName := ⟨RX9, "readGood", "()Z"⟩
abbrev cX9_readPart : ByteArray := prog_11_method_14_code
def yX9_readPart : MethodName := ⟨RX9, "readPart", "()Z"⟩
abbrev cX9_readMarket : ByteArray := prog_11_method_15_code
def yX9_readMarket : MethodName := ⟨RX9, "readMarket", "()I"⟩
abbrev cX9_fault : ByteArray := prog_11_method_16_code
def yX9_fault : MethodName := ⟨RX9, "fault", "()I"⟩
abbrev cX9_come : ByteArray := prog_11_method_17_code
def yX9_come : MethodName := ⟨RX9, "come", "(I)V"⟩
abbrev cX9_market : ByteArray := prog_11_method_18_code
def yX9_market : MethodName := ⟨RX9, "market", "()I"⟩
abbrev cX9_fakes : ByteArray := prog_11_method_19_code
def yX9_fakes : MethodName := ⟨RX9, "fakes", "()I"⟩
abbrev cX9_about : ByteArray := prog_11_method_20_code
def yX9_about : MethodName := ⟨RX9, "about", "(I)I"⟩
abbrev cX9_worthBy : ByteArray := prog_11_method_21_code
def yX9_worthBy : MethodName := ⟨RX9, "worthBy", "(II)I"⟩
abbrev cX9_worth : ByteArray := prog_11_method_22_code
def yX9_worth : MethodName := ⟨RX9, "worth", "(I)I"⟩
abbrev cX9_tooth : ByteArray := prog_11_method_23_code
def yX9_tooth : MethodName := ⟨RX9, "tooth", "(II)I"⟩
abbrev cX9_good : ByteArray := prog_11_method_24_code
def yX9_good : MethodName := ⟨RX9, "good", "(II)I"⟩
abbrev cX9_setOf : ByteArray := prog_11_method_25_code
def yX9_setOf : MethodName := ⟨RX9, "setOf", "(I)I"⟩
abbrev cX9_worthOf : ByteArray := prog_11_method_26_code
def yX9_worthOf : MethodName := ⟨RX9, "worthOf", "(I)I"⟩
abbrev cX9_purse : ByteArray := prog_11_method_27_code
def yX9_purse : MethodName := ⟨RX9, "purse", "(I)I"⟩
abbrev cX9_goHandle : ByteArray := prog_11_method_28_code
def yX9_goHandle : MethodName := ⟨RX9, "goHandle", "(I)V"⟩
abbrev cX9_handle : ByteArray := prog_11_method_29_code
def yX9_handle : MethodName := ⟨RX9, "handle", "(I)I"⟩
abbrev cX9_bite : ByteArray := prog_11_method_30_code
def yX9_bite : MethodName := ⟨RX9, "bite", "(I)I"⟩
abbrev cX9_next : ByteArray := prog_11_method_31_code
def yX9_next : MethodName := ⟨RX9, "next", "(II)I"⟩
abbrev cX9_findFewest : ByteArray := prog_11_method_32_code
def yX9_findFewest : MethodName := ⟨RX9, "findFewest", "(III)I"⟩
abbrev cX9_noPay : ByteArray := prog_11_method_33_code
def yX9_noPay : MethodName := ⟨RX9, "noPay", "(III)I"⟩
abbrev cX9_fewest : ByteArray := prog_11_method_34_code
def yX9_fewest : MethodName := ⟨RX9, "fewest", "(III)I"⟩
abbrev cX9_paid : ByteArray := prog_11_method_35_code
def yX9_paid : MethodName := ⟨RX9, "paid", "(IIIZ)I"⟩
abbrev cX9_lay : ByteArray := prog_11_method_36_code
def yX9_lay : MethodName := ⟨RX9, "lay", "([II)V"⟩
abbrev cX9_take : ByteArray := prog_11_method_37_code
def yX9_take : MethodName := ⟨RX9, "take", "([II)V"⟩
abbrev cX9_goOver : ByteArray := prog_11_method_38_code
def yX9_goOver : MethodName := ⟨RX9, "goOver", "(II)V"⟩
abbrev cX9_pay : ByteArray := prog_11_method_39_code
def yX9_pay : MethodName := ⟨RX9, "pay", "(III)I"⟩
abbrev cX9_undo : ByteArray := prog_11_method_40_code
def yX9_undo : MethodName := ⟨RX9, "undo", "()I"⟩
abbrev cX9_findMuch : ByteArray := prog_11_method_41_code
def yX9_findMuch : MethodName := ⟨RX9, "findMuch", "(II)I"⟩
abbrev cX9_tooMuch : ByteArray := prog_11_method_42_code
def yX9_tooMuch : MethodName := ⟨RX9, "tooMuch", "(IIZ)I"⟩
abbrev cX9_sums : ByteArray := prog_11_method_43_code
def yX9_sums : MethodName := ⟨RX9, "sums", "(III)I"⟩
abbrev cX9_spent : ByteArray := prog_11_method_44_code
def yX9_spent : MethodName := ⟨RX9, "spent", "(IZ)I"⟩
abbrev cX9_add : ByteArray := prog_11_method_45_code
def yX9_add : MethodName := ⟨RX9, "add", "(IJ)V"⟩
abbrev cX9_draw : ByteArray := prog_11_method_46_code
def yX9_draw : MethodName := ⟨RX9, "draw", "(J)J"⟩
abbrev cX9_caught : ByteArray := prog_11_method_47_code
def yX9_caught : MethodName := ⟨RX9, "caught", "(IJ)I"⟩
abbrev cX9_washed : ByteArray := prog_11_method_48_code
def yX9_washed : MethodName := ⟨RX9, "washed", "(IJ)I"⟩
abbrev cX9_life : ByteArray := prog_11_method_49_code
def yX9_life : MethodName := ⟨RX9, "life", "(II)I"⟩
abbrev cX9_trace : ByteArray := prog_11_method_50_code
def yX9_trace : MethodName := ⟨RX9, "trace", "(II)I"⟩
abbrev cX9_inflated : ByteArray := prog_11_method_51_code
def yX9_inflated : MethodName := ⟨RX9, "inflated", "(II)I"⟩
abbrev cX9_told : ByteArray := prog_11_method_52_code
def yX9_told : MethodName := ⟨RX9, "told", "(JJZ)J"⟩
abbrev cX9_power : ByteArray := prog_11_method_53_code
def yX9_power : MethodName := ⟨RX9, "power", "(JI)J"⟩
abbrev cX9_noTenths : ByteArray := prog_11_method_54_code
def yX9_noTenths : MethodName := ⟨RX9, "noTenths", "(I)Z"⟩
abbrev cX9_doubt : ByteArray := prog_11_method_55_code
def yX9_doubt : MethodName := ⟨RX9, "doubt", "(IIIIIZ)J"⟩
abbrev cX9_among : ByteArray := prog_11_method_56_code
def yX9_among : MethodName := ⟨RX9, "among", "(IIIZ)J"⟩
abbrev cX9_rate : ByteArray := prog_11_method_57_code
def yX9_rate : MethodName := ⟨RX9, "rate", "(IIII)I"⟩
abbrev cX9_layRing : ByteArray := prog_11_method_58_code
def yX9_layRing : MethodName := ⟨RX9, "layRing", "(II)Z"⟩
abbrev cX9_findRing : ByteArray := prog_11_method_59_code
def yX9_findRing : MethodName := ⟨RX9, "findRing", "()V"⟩
abbrev cX9_ring : ByteArray := prog_11_method_60_code
def yX9_ring : MethodName := ⟨RX9, "ring", "(Z)J"⟩
abbrev cX9_ringAt : ByteArray := prog_11_method_61_code
def yX9_ringAt : MethodName := ⟨RX9, "ringAt", "(I)I"⟩
abbrev cX9_should : ByteArray := prog_11_method_62_code
def yX9_should : MethodName := ⟨RX9, "should", "(II)I"⟩
abbrev cX9_stolenSet : ByteArray := prog_11_method_63_code
def yX9_stolenSet : MethodName := ⟨RX9, "stolenSet", "()I"⟩
abbrev cX9_stolen : ByteArray := prog_11_method_64_code
def yX9_stolen : MethodName := ⟨RX9, "stolen", "()I"⟩
abbrev cX9_thief : ByteArray := prog_11_method_65_code
def yX9_thief : MethodName := ⟨RX9, "thief", "()I"⟩
abbrev cX9_keep : ByteArray := prog_11_method_66_code
def yX9_keep : MethodName := ⟨RX9, "keep", "(I)I"⟩
abbrev cX9_again : ByteArray := prog_11_method_67_code
def yX9_again : MethodName := ⟨RX9, "again", "(I)I"⟩
def RJ6 : String := "java/lang/Integer"
def TJ6 : u_T := fun k => match k with
  | _ => ("", "", "", false)
def tyJ6 : Nat → FieldType := fun k => match k with
  | _ => .int
abbrev wsJ60 : List Cond := u_ws RJ6 TJ6 0
theorem nmJ6 : ∀ a, a < 0 → ∀ b, b < 0 → a ≠ b → (TJ6 a).2.1 ≠ (TJ6 b).2.1 := by decide +kernel
theorem tyJ6_ok : ∀ k, k < 0 → parseFieldDescriptor (TJ6 k).2.2.1 = some (tyJ6 k) := by decide +kernel
abbrev cJ6_bitCount_0f7a4 : ByteArray := prog_12_method_49_code
def yJ6_bitCount_0f7a4 : MethodName := ⟨RJ6, "bitCount", "(I)I"⟩
def RJ9 : String := "java/lang/Math"
def TJ9 : u_T := fun k => match k with
  | _ => ("", "", "", false)
def tyJ9 : Nat → FieldType := fun k => match k with
  | _ => .int
abbrev wsJ90 : List Cond := u_ws RJ9 TJ9 0
theorem nmJ9 : ∀ a, a < 0 → ∀ b, b < 0 → a ≠ b → (TJ9 a).2.1 ≠ (TJ9 b).2.1 := by decide +kernel
theorem tyJ9_ok : ∀ k, k < 0 → parseFieldDescriptor (TJ9 k).2.2.1 = some (tyJ9 k) := by decide +kernel
abbrev cJ9_max_7cf53 : ByteArray := prog_13_method_65_code
def yJ9_max_7cf53 : MethodName := ⟨RJ9, "max", "(II)I"⟩
abbrev cJ9_min_7cf53 : ByteArray := prog_13_method_69_code
def yJ9_min_7cf53 : MethodName := ⟨RJ9, "min", "(II)I"⟩
def RJ10 : String := "java/lang/System"
def TJ10 : u_T := fun k => match k with
  | _ => ("", "", "", false)
def tyJ10 : Nat → FieldType := fun k => match k with
  | _ => .int
abbrev wsJ100 : List Cond := u_ws RJ10 TJ10 0
theorem nmJ10 : ∀ a, a < 0 → ∀ b, b < 0 → a ≠ b → (TJ10 a).2.1 ≠ (TJ10 b).2.1 := by decide +kernel
theorem tyJ10_ok : ∀ k, k < 0 → parseFieldDescriptor (TJ10 k).2.2.1 = some (tyJ10 k) := by decide +kernel
def RJ7 : String := "java/util/Arrays"
def TJ7 : u_T := fun k => match k with
  | _ => ("", "", "", false)
def tyJ7 : Nat → FieldType := fun k => match k with
  | _ => .int
abbrev wsJ70 : List Cond := u_ws RJ7 TJ7 0
theorem nmJ7 : ∀ a, a < 0 → ∀ b, b < 0 → a ≠ b → (TJ7 a).2.1 ≠ (TJ7 b).2.1 := by decide +kernel
theorem tyJ7_ok : ∀ k, k < 0 → parseFieldDescriptor (TJ7 k).2.2.1 = some (tyJ7 k) := by decide +kernel
abbrev cJ7_fill_53178 : ByteArray := prog_15_method_103_code
def yJ7_fill_53178 : MethodName := ⟨RJ7, "fill", "([II)V"⟩
def RL : String := "TeethForCoinsLaw"
abbrev cL_law : ByteArray := code
def yL_law : MethodName := ⟨RL, "law", "([I)Z"⟩
abbrev vwCl : List vw_C := [(RX0, TX0, 2), (RX1, TX1, 3), (RX2, TX2, 4), (RX3, TX3, 2), (RX4, TX4, 4), (RX5, TX5, 4), (RX6, TX6, 2), (RX7, TX7, 2), (RX8, TX8, 12), (RX9, TX9, 48)]
