section
-- ===== PART A: goes FIRST, ahead of the names: the tables' words, and 'selects' of the private methods out of them =====
/-- a private method of a class that the tables say can be made, by its rows of tables_1 -/
def lw_okq (q : MethodName × Nat) : Prop := (q.1.cls ≠ "java/lang/invoke/MethodHandle" ∧ q.1.cls ≠ "java/lang/invoke/VarHandle") ∧ Cond.instantiable q.1.cls q.2 ∈ tables_1 ∧ Cond.privateMethod q.1 ∈ tables_1 ∧ Cond.instanceMethod q.1 ∈ tables_1
theorem lw_p0 : lw_okq (⟨"TeethForCoins$Text", "append", "(B)V"⟩, 2) := ⟨⟨by decide +kernel, by decide +kernel⟩, List.mem_of_getElem? (i := 24) (by decide +kernel), List.mem_of_getElem? (i := 218) (by decide +kernel), List.mem_of_getElem? (i := 219) (by decide +kernel)⟩
theorem lw_p1 : lw_okq (⟨"TeethForCoins$Text", "faultPlace", "()I"⟩, 2) := ⟨⟨by decide +kernel, by decide +kernel⟩, List.mem_of_getElem? (i := 24) (by decide +kernel), List.mem_of_getElem? (i := 230) (by decide +kernel), List.mem_of_getElem? (i := 231) (by decide +kernel)⟩
theorem lw_p2 : lw_okq (⟨"TeethForCoins$Text", "byteAt", "(I)I"⟩, 2) := ⟨⟨by decide +kernel, by decide +kernel⟩, List.mem_of_getElem? (i := 24) (by decide +kernel), List.mem_of_getElem? (i := 234) (by decide +kernel), List.mem_of_getElem? (i := 235) (by decide +kernel)⟩
theorem lw_p3 : lw_okq (⟨"TeethForCoins$Text", "mayFollow", "(III)Z"⟩, 2) := ⟨⟨by decide +kernel, by decide +kernel⟩, List.mem_of_getElem? (i := 24) (by decide +kernel), List.mem_of_getElem? (i := 238) (by decide +kernel), List.mem_of_getElem? (i := 239) (by decide +kernel)⟩
theorem lw_p4 : lw_okq (⟨"TeethForCoins$Text", "figureAt", "(I)I"⟩, 2) := ⟨⟨by decide +kernel, by decide +kernel⟩, List.mem_of_getElem? (i := 24) (by decide +kernel), List.mem_of_getElem? (i := 242) (by decide +kernel), List.mem_of_getElem? (i := 243) (by decide +kernel)⟩
theorem lw_p5 : lw_okq (⟨"TeethForCoins", "readPart", "(I)V"⟩, 12) := ⟨⟨by decide +kernel, by decide +kernel⟩, List.mem_of_getElem? (i := 16) (by decide +kernel), List.mem_of_getElem? (i := 260) (by decide +kernel), List.mem_of_getElem? (i := 261) (by decide +kernel)⟩
theorem lw_p6 : lw_okq (⟨"TeethForCoins$Teeth", "add", "(IZI)I"⟩, 2) := ⟨⟨by decide +kernel, by decide +kernel⟩, List.mem_of_getElem? (i := 39) (by decide +kernel), List.mem_of_getElem? (i := 266) (by decide +kernel), List.mem_of_getElem? (i := 267) (by decide +kernel)⟩
theorem lw_p7 : lw_okq (⟨"TeethForCoins$Teeth", "set", "(III)V"⟩, 2) := ⟨⟨by decide +kernel, by decide +kernel⟩, List.mem_of_getElem? (i := 39) (by decide +kernel), List.mem_of_getElem? (i := 270) (by decide +kernel), List.mem_of_getElem? (i := 271) (by decide +kernel)⟩
theorem lw_p8 : lw_okq (⟨"TeethForCoins$Teeth", "passTo", "(II)V"⟩, 2) := ⟨⟨by decide +kernel, by decide +kernel⟩, List.mem_of_getElem? (i := 39) (by decide +kernel), List.mem_of_getElem? (i := 274) (by decide +kernel), List.mem_of_getElem? (i := 275) (by decide +kernel)⟩
theorem lw_p9 : lw_okq (⟨"TeethForCoins$Teeth", "get", "(II)I"⟩, 2) := ⟨⟨by decide +kernel, by decide +kernel⟩, List.mem_of_getElem? (i := 39) (by decide +kernel), List.mem_of_getElem? (i := 278) (by decide +kernel), List.mem_of_getElem? (i := 279) (by decide +kernel)⟩
theorem lw_p10 : lw_okq (⟨"TeethForCoins$Goods", "add", "(II)V"⟩, 3) := ⟨⟨by decide +kernel, by decide +kernel⟩, List.mem_of_getElem? (i := 54) (by decide +kernel), List.mem_of_getElem? (i := 283) (by decide +kernel), List.mem_of_getElem? (i := 284) (by decide +kernel)⟩
theorem lw_p11 : lw_okq (⟨"TeethForCoins$Teeth", "fakes", "()I"⟩, 2) := ⟨⟨by decide +kernel, by decide +kernel⟩, List.mem_of_getElem? (i := 39) (by decide +kernel), List.mem_of_getElem? (i := 295) (by decide +kernel), List.mem_of_getElem? (i := 296) (by decide +kernel)⟩
theorem lw_p12 : lw_okq (⟨"TeethForCoins", "isTooth", "(I)Z"⟩, 12) := ⟨⟨by decide +kernel, by decide +kernel⟩, List.mem_of_getElem? (i := 16) (by decide +kernel), List.mem_of_getElem? (i := 303) (by decide +kernel), List.mem_of_getElem? (i := 304) (by decide +kernel)⟩
theorem lw_p13 : lw_okq (⟨"TeethForCoins", "worthOf", "(I)I"⟩, 12) := ⟨⟨by decide +kernel, by decide +kernel⟩, List.mem_of_getElem? (i := 16) (by decide +kernel), List.mem_of_getElem? (i := 308) (by decide +kernel), List.mem_of_getElem? (i := 309) (by decide +kernel)⟩
theorem lw_p14 : lw_okq (⟨"TeethForCoins", "worthWorn", "(II)I"⟩, 12) := ⟨⟨by decide +kernel, by decide +kernel⟩, List.mem_of_getElem? (i := 16) (by decide +kernel), List.mem_of_getElem? (i := 312) (by decide +kernel), List.mem_of_getElem? (i := 313) (by decide +kernel)⟩
theorem lw_p15 : lw_okq (⟨"TeethForCoins", "isGood", "(I)Z"⟩, 12) := ⟨⟨by decide +kernel, by decide +kernel⟩, List.mem_of_getElem? (i := 16) (by decide +kernel), List.mem_of_getElem? (i := 320) (by decide +kernel), List.mem_of_getElem? (i := 321) (by decide +kernel)⟩
def lw_privs_1 : List (MethodName × Nat) := [(⟨"TeethForCoins$Text", "append", "(B)V"⟩, 2), (⟨"TeethForCoins$Text", "faultPlace", "()I"⟩, 2), (⟨"TeethForCoins$Text", "byteAt", "(I)I"⟩, 2), (⟨"TeethForCoins$Text", "mayFollow", "(III)Z"⟩, 2), (⟨"TeethForCoins$Text", "figureAt", "(I)I"⟩, 2), (⟨"TeethForCoins", "readPart", "(I)V"⟩, 12), (⟨"TeethForCoins$Teeth", "add", "(IZI)I"⟩, 2), (⟨"TeethForCoins$Teeth", "set", "(III)V"⟩, 2), (⟨"TeethForCoins$Teeth", "passTo", "(II)V"⟩, 2), (⟨"TeethForCoins$Teeth", "get", "(II)I"⟩, 2), (⟨"TeethForCoins$Goods", "add", "(II)V"⟩, 3), (⟨"TeethForCoins$Teeth", "fakes", "()I"⟩, 2), (⟨"TeethForCoins", "isTooth", "(I)Z"⟩, 12), (⟨"TeethForCoins", "worthOf", "(I)I"⟩, 12), (⟨"TeethForCoins", "worthWorn", "(II)I"⟩, 12), (⟨"TeethForCoins", "isGood", "(I)Z"⟩, 12)]
theorem lw_r1 : ∀ q ∈ lw_privs_1, lw_okq q := List.forall_mem_cons.mpr ⟨lw_p0, List.forall_mem_cons.mpr ⟨lw_p1, List.forall_mem_cons.mpr ⟨lw_p2, List.forall_mem_cons.mpr ⟨lw_p3, List.forall_mem_cons.mpr ⟨lw_p4, List.forall_mem_cons.mpr ⟨lw_p5, List.forall_mem_cons.mpr ⟨lw_p6, List.forall_mem_cons.mpr ⟨lw_p7, List.forall_mem_cons.mpr ⟨lw_p8, List.forall_mem_cons.mpr ⟨lw_p9, List.forall_mem_cons.mpr ⟨lw_p10, List.forall_mem_cons.mpr ⟨lw_p11, List.forall_mem_cons.mpr ⟨lw_p12, List.forall_mem_cons.mpr ⟨lw_p13, List.forall_mem_cons.mpr ⟨lw_p14, List.forall_mem_cons.mpr ⟨lw_p15, fun _ h => absurd h List.not_mem_nil⟩⟩⟩⟩⟩⟩⟩⟩⟩⟩⟩⟩⟩⟩⟩⟩
theorem lw_p16 : lw_okq (⟨"TeethForCoins$Goods", "priceOf", "(I)I"⟩, 3) := ⟨⟨by decide +kernel, by decide +kernel⟩, List.mem_of_getElem? (i := 54) (by decide +kernel), List.mem_of_getElem? (i := 324) (by decide +kernel), List.mem_of_getElem? (i := 325) (by decide +kernel)⟩
theorem lw_p17 : lw_okq (⟨"TeethForCoins$Goods", "useOf", "(I)I"⟩, 3) := ⟨⟨by decide +kernel, by decide +kernel⟩, List.mem_of_getElem? (i := 54) (by decide +kernel), List.mem_of_getElem? (i := 328) (by decide +kernel), List.mem_of_getElem? (i := 329) (by decide +kernel)⟩
theorem lw_p18 : lw_okq (⟨"TeethForCoins$Teeth", "ownedBy", "(I)I"⟩, 2) := ⟨⟨by decide +kernel, by decide +kernel⟩, List.mem_of_getElem? (i := 39) (by decide +kernel), List.mem_of_getElem? (i := 339) (by decide +kernel), List.mem_of_getElem? (i := 340) (by decide +kernel)⟩
theorem lw_p19 : lw_okq (⟨"TeethForCoins", "worthOfSet", "(I)I"⟩, 12) := ⟨⟨by decide +kernel, by decide +kernel⟩, List.mem_of_getElem? (i := 16) (by decide +kernel), List.mem_of_getElem? (i := 343) (by decide +kernel), List.mem_of_getElem? (i := 344) (by decide +kernel)⟩
theorem lw_p20 : lw_okq (⟨"TeethForCoins$Teeth", "wearDown", "(I)V"⟩, 2) := ⟨⟨by decide +kernel, by decide +kernel⟩, List.mem_of_getElem? (i := 39) (by decide +kernel), List.mem_of_getElem? (i := 351) (by decide +kernel), List.mem_of_getElem? (i := 352) (by decide +kernel)⟩
theorem lw_p21 : lw_okq (⟨"TeethForCoins", "seekFewest", "(III)V"⟩, 12) := ⟨⟨by decide +kernel, by decide +kernel⟩, List.mem_of_getElem? (i := 16) (by decide +kernel), List.mem_of_getElem? (i := 372) (by decide +kernel), List.mem_of_getElem? (i := 373) (by decide +kernel)⟩
theorem lw_p22 : lw_okq (⟨"TeethForCoins", "weighSets", "(I)V"⟩, 12) := ⟨⟨by decide +kernel, by decide +kernel⟩, List.mem_of_getElem? (i := 16) (by decide +kernel), List.mem_of_getElem? (i := 376) (by decide +kernel), List.mem_of_getElem? (i := 377) (by decide +kernel)⟩
theorem lw_p23 : lw_okq (⟨"TeethForCoins$Least", "clear", "()V"⟩, 4) := ⟨⟨by decide +kernel, by decide +kernel⟩, List.mem_of_getElem? (i := 106) (by decide +kernel), List.mem_of_getElem? (i := 380) (by decide +kernel), List.mem_of_getElem? (i := 381) (by decide +kernel)⟩
theorem lw_p24 : lw_okq (⟨"TeethForCoins", "setsOfTeeth", "()I"⟩, 12) := ⟨⟨by decide +kernel, by decide +kernel⟩, List.mem_of_getElem? (i := 16) (by decide +kernel), List.mem_of_getElem? (i := 384) (by decide +kernel), List.mem_of_getElem? (i := 385) (by decide +kernel)⟩
theorem lw_p25 : lw_okq (⟨"TeethForCoins$Least", "offer", "(III)V"⟩, 4) := ⟨⟨by decide +kernel, by decide +kernel⟩, List.mem_of_getElem? (i := 106) (by decide +kernel), List.mem_of_getElem? (i := 395) (by decide +kernel), List.mem_of_getElem? (i := 396) (by decide +kernel)⟩
theorem lw_p26 : lw_okq (⟨"TeethForCoins$Bargains", "remember", "(LTeethForCoins$Teeth;)V"⟩, 2) := ⟨⟨by decide +kernel, by decide +kernel⟩, List.mem_of_getElem? (i := 71) (by decide +kernel), List.mem_of_getElem? (i := 407) (by decide +kernel), List.mem_of_getElem? (i := 408) (by decide +kernel)⟩
theorem lw_p27 : lw_okq (⟨"TeethForCoins$Teeth", "copyFrom", "(LTeethForCoins$Teeth;)V"⟩, 2) := ⟨⟨by decide +kernel, by decide +kernel⟩, List.mem_of_getElem? (i := 39) (by decide +kernel), List.mem_of_getElem? (i := 411) (by decide +kernel), List.mem_of_getElem? (i := 412) (by decide +kernel)⟩
theorem lw_p28 : lw_okq (⟨"TeethForCoins$Teeth", "copyCells", "(LTeethForCoins$Teeth;II)V"⟩, 2) := ⟨⟨by decide +kernel, by decide +kernel⟩, List.mem_of_getElem? (i := 39) (by decide +kernel), List.mem_of_getElem? (i := 415) (by decide +kernel), List.mem_of_getElem? (i := 416) (by decide +kernel)⟩
theorem lw_p29 : lw_okq (⟨"TeethForCoins", "handOver", "(II)V"⟩, 12) := ⟨⟨by decide +kernel, by decide +kernel⟩, List.mem_of_getElem? (i := 16) (by decide +kernel), List.mem_of_getElem? (i := 422) (by decide +kernel), List.mem_of_getElem? (i := 423) (by decide +kernel)⟩
theorem lw_p30 : lw_okq (⟨"TeethForCoins$Bargains", "takeBack", "(LTeethForCoins$Teeth;)V"⟩, 2) := ⟨⟨by decide +kernel, by decide +kernel⟩, List.mem_of_getElem? (i := 71) (by decide +kernel), List.mem_of_getElem? (i := 431) (by decide +kernel), List.mem_of_getElem? (i := 432) (by decide +kernel)⟩
theorem lw_p31 : lw_okq (⟨"TeethForCoins$Teeth", "takeBack", "(LTeethForCoins$Teeth;)V"⟩, 2) := ⟨⟨by decide +kernel, by decide +kernel⟩, List.mem_of_getElem? (i := 39) (by decide +kernel), List.mem_of_getElem? (i := 435) (by decide +kernel), List.mem_of_getElem? (i := 436) (by decide +kernel)⟩
def lw_privs_2 : List (MethodName × Nat) := [(⟨"TeethForCoins$Goods", "priceOf", "(I)I"⟩, 3), (⟨"TeethForCoins$Goods", "useOf", "(I)I"⟩, 3), (⟨"TeethForCoins$Teeth", "ownedBy", "(I)I"⟩, 2), (⟨"TeethForCoins", "worthOfSet", "(I)I"⟩, 12), (⟨"TeethForCoins$Teeth", "wearDown", "(I)V"⟩, 2), (⟨"TeethForCoins", "seekFewest", "(III)V"⟩, 12), (⟨"TeethForCoins", "weighSets", "(I)V"⟩, 12), (⟨"TeethForCoins$Least", "clear", "()V"⟩, 4), (⟨"TeethForCoins", "setsOfTeeth", "()I"⟩, 12), (⟨"TeethForCoins$Least", "offer", "(III)V"⟩, 4), (⟨"TeethForCoins$Bargains", "remember", "(LTeethForCoins$Teeth;)V"⟩, 2), (⟨"TeethForCoins$Teeth", "copyFrom", "(LTeethForCoins$Teeth;)V"⟩, 2), (⟨"TeethForCoins$Teeth", "copyCells", "(LTeethForCoins$Teeth;II)V"⟩, 2), (⟨"TeethForCoins", "handOver", "(II)V"⟩, 12), (⟨"TeethForCoins$Bargains", "takeBack", "(LTeethForCoins$Teeth;)V"⟩, 2), (⟨"TeethForCoins$Teeth", "takeBack", "(LTeethForCoins$Teeth;)V"⟩, 2)]
theorem lw_r2 : ∀ q ∈ lw_privs_2, lw_okq q := List.forall_mem_cons.mpr ⟨lw_p16, List.forall_mem_cons.mpr ⟨lw_p17, List.forall_mem_cons.mpr ⟨lw_p18, List.forall_mem_cons.mpr ⟨lw_p19, List.forall_mem_cons.mpr ⟨lw_p20, List.forall_mem_cons.mpr ⟨lw_p21, List.forall_mem_cons.mpr ⟨lw_p22, List.forall_mem_cons.mpr ⟨lw_p23, List.forall_mem_cons.mpr ⟨lw_p24, List.forall_mem_cons.mpr ⟨lw_p25, List.forall_mem_cons.mpr ⟨lw_p26, List.forall_mem_cons.mpr ⟨lw_p27, List.forall_mem_cons.mpr ⟨lw_p28, List.forall_mem_cons.mpr ⟨lw_p29, List.forall_mem_cons.mpr ⟨lw_p30, List.forall_mem_cons.mpr ⟨lw_p31, fun _ h => absurd h List.not_mem_nil⟩⟩⟩⟩⟩⟩⟩⟩⟩⟩⟩⟩⟩⟩⟩⟩
theorem lw_p32 : lw_okq (⟨"TeethForCoins", "seekTooMuch", "(II)V"⟩, 12) := ⟨⟨by decide +kernel, by decide +kernel⟩, List.mem_of_getElem? (i := 16) (by decide +kernel), List.mem_of_getElem? (i := 443) (by decide +kernel), List.mem_of_getElem? (i := 444) (by decide +kernel)⟩
theorem lw_p33 : lw_okq (⟨"TeethForCoins$Goods", "priceOfSet", "(I)I"⟩, 3) := ⟨⟨by decide +kernel, by decide +kernel⟩, List.mem_of_getElem? (i := 54) (by decide +kernel), List.mem_of_getElem? (i := 456) (by decide +kernel), List.mem_of_getElem? (i := 457) (by decide +kernel)⟩
theorem lw_p34 : lw_okq (⟨"TeethForCoins$Goods", "useOfSet", "(I)I"⟩, 3) := ⟨⟨by decide +kernel, by decide +kernel⟩, List.mem_of_getElem? (i := 54) (by decide +kernel), List.mem_of_getElem? (i := 461) (by decide +kernel), List.mem_of_getElem? (i := 462) (by decide +kernel)⟩
theorem lw_p35 : lw_okq (⟨"TeethForCoins", "addDrawn", "(IJ)V"⟩, 12) := ⟨⟨by decide +kernel, by decide +kernel⟩, List.mem_of_getElem? (i := 16) (by decide +kernel), List.mem_of_getElem? (i := 475) (by decide +kernel), List.mem_of_getElem? (i := 476) (by decide +kernel)⟩
theorem lw_p36 : lw_okq (⟨"TeethForCoins$Teeth", "traceOf", "(II)I"⟩, 2) := ⟨⟨by decide +kernel, by decide +kernel⟩, List.mem_of_getElem? (i := 39) (by decide +kernel), List.mem_of_getElem? (i := 493) (by decide +kernel), List.mem_of_getElem? (i := 494) (by decide +kernel)⟩
theorem lw_p37 : lw_okq (⟨"TeethForCoins$Rates", "gotFor", "(II)I"⟩, 2) := ⟨⟨by decide +kernel, by decide +kernel⟩, List.mem_of_getElem? (i := 88) (by decide +kernel), List.mem_of_getElem? (i := 531) (by decide +kernel), List.mem_of_getElem? (i := 532) (by decide +kernel)⟩
theorem lw_p38 : lw_okq (⟨"TeethForCoins$Rates", "givenFor", "(II)I"⟩, 2) := ⟨⟨by decide +kernel, by decide +kernel⟩, List.mem_of_getElem? (i := 88) (by decide +kernel), List.mem_of_getElem? (i := 535) (by decide +kernel), List.mem_of_getElem? (i := 536) (by decide +kernel)⟩
theorem lw_p39 : lw_okq (⟨"TeethForCoins$Rates", "put", "(IIII)V"⟩, 2) := ⟨⟨by decide +kernel, by decide +kernel⟩, List.mem_of_getElem? (i := 88) (by decide +kernel), List.mem_of_getElem? (i := 539) (by decide +kernel), List.mem_of_getElem? (i := 540) (by decide +kernel)⟩
theorem lw_p40 : lw_okq (⟨"TeethForCoins", "seekRing", "()V"⟩, 12) := ⟨⟨by decide +kernel, by decide +kernel⟩, List.mem_of_getElem? (i := 16) (by decide +kernel), List.mem_of_getElem? (i := 547) (by decide +kernel), List.mem_of_getElem? (i := 548) (by decide +kernel)⟩
theorem lw_p41 : lw_okq (⟨"TeethForCoins$Ring", "clear", "()V"⟩, 4) := ⟨⟨by decide +kernel, by decide +kernel⟩, List.mem_of_getElem? (i := 129) (by decide +kernel), List.mem_of_getElem? (i := 551) (by decide +kernel), List.mem_of_getElem? (i := 552) (by decide +kernel)⟩
theorem lw_p42 : lw_okq (⟨"TeethForCoins$Ring", "offer", "(LTeethForCoins$Rates;II)V"⟩, 4) := ⟨⟨by decide +kernel, by decide +kernel⟩, List.mem_of_getElem? (i := 129) (by decide +kernel), List.mem_of_getElem? (i := 561) (by decide +kernel), List.mem_of_getElem? (i := 562) (by decide +kernel)⟩
theorem lw_p43 : lw_okq (⟨"TeethForCoins$Teeth", "wearTooMuch", "(I)I"⟩, 2) := ⟨⟨by decide +kernel, by decide +kernel⟩, List.mem_of_getElem? (i := 39) (by decide +kernel), List.mem_of_getElem? (i := 580) (by decide +kernel), List.mem_of_getElem? (i := 581) (by decide +kernel)⟩
theorem lw_p44 : lw_okq (⟨"TeethForCoins$Teeth", "wearTooMuchOf", "(I)I"⟩, 2) := ⟨⟨by decide +kernel, by decide +kernel⟩, List.mem_of_getElem? (i := 39) (by decide +kernel), List.mem_of_getElem? (i := 589) (by decide +kernel), List.mem_of_getElem? (i := 590) (by decide +kernel)⟩
theorem lw_p45 : lw_okq (⟨"TeethForCoins", "isSlot", "(I)Z"⟩, 12) := ⟨⟨by decide +kernel, by decide +kernel⟩, List.mem_of_getElem? (i := 16) (by decide +kernel), List.mem_of_getElem? (i := 598) (by decide +kernel), List.mem_of_getElem? (i := 599) (by decide +kernel)⟩
theorem lw_p46 : lw_okq (⟨"TeethForCoins$Slot", "takeIn", "(LTeethForCoins$Teeth;LTeethForCoins$Bargains;LTeethForCoins$Rates;)V"⟩, 4) := ⟨⟨by decide +kernel, by decide +kernel⟩, List.mem_of_getElem? (i := 151) (by decide +kernel), List.mem_of_getElem? (i := 602) (by decide +kernel), List.mem_of_getElem? (i := 603) (by decide +kernel)⟩
theorem lw_p47 : lw_okq (⟨"TeethForCoins$Bargains", "copyFrom", "(LTeethForCoins$Bargains;)V"⟩, 2) := ⟨⟨by decide +kernel, by decide +kernel⟩, List.mem_of_getElem? (i := 71) (by decide +kernel), List.mem_of_getElem? (i := 607) (by decide +kernel), List.mem_of_getElem? (i := 608) (by decide +kernel)⟩
def lw_privs_3 : List (MethodName × Nat) := [(⟨"TeethForCoins", "seekTooMuch", "(II)V"⟩, 12), (⟨"TeethForCoins$Goods", "priceOfSet", "(I)I"⟩, 3), (⟨"TeethForCoins$Goods", "useOfSet", "(I)I"⟩, 3), (⟨"TeethForCoins", "addDrawn", "(IJ)V"⟩, 12), (⟨"TeethForCoins$Teeth", "traceOf", "(II)I"⟩, 2), (⟨"TeethForCoins$Rates", "gotFor", "(II)I"⟩, 2), (⟨"TeethForCoins$Rates", "givenFor", "(II)I"⟩, 2), (⟨"TeethForCoins$Rates", "put", "(IIII)V"⟩, 2), (⟨"TeethForCoins", "seekRing", "()V"⟩, 12), (⟨"TeethForCoins$Ring", "clear", "()V"⟩, 4), (⟨"TeethForCoins$Ring", "offer", "(LTeethForCoins$Rates;II)V"⟩, 4), (⟨"TeethForCoins$Teeth", "wearTooMuch", "(I)I"⟩, 2), (⟨"TeethForCoins$Teeth", "wearTooMuchOf", "(I)I"⟩, 2), (⟨"TeethForCoins", "isSlot", "(I)Z"⟩, 12), (⟨"TeethForCoins$Slot", "takeIn", "(LTeethForCoins$Teeth;LTeethForCoins$Bargains;LTeethForCoins$Rates;)V"⟩, 4), (⟨"TeethForCoins$Bargains", "copyFrom", "(LTeethForCoins$Bargains;)V"⟩, 2)]
theorem lw_r3 : ∀ q ∈ lw_privs_3, lw_okq q := List.forall_mem_cons.mpr ⟨lw_p32, List.forall_mem_cons.mpr ⟨lw_p33, List.forall_mem_cons.mpr ⟨lw_p34, List.forall_mem_cons.mpr ⟨lw_p35, List.forall_mem_cons.mpr ⟨lw_p36, List.forall_mem_cons.mpr ⟨lw_p37, List.forall_mem_cons.mpr ⟨lw_p38, List.forall_mem_cons.mpr ⟨lw_p39, List.forall_mem_cons.mpr ⟨lw_p40, List.forall_mem_cons.mpr ⟨lw_p41, List.forall_mem_cons.mpr ⟨lw_p42, List.forall_mem_cons.mpr ⟨lw_p43, List.forall_mem_cons.mpr ⟨lw_p44, List.forall_mem_cons.mpr ⟨lw_p45, List.forall_mem_cons.mpr ⟨lw_p46, List.forall_mem_cons.mpr ⟨lw_p47, fun _ h => absurd h List.not_mem_nil⟩⟩⟩⟩⟩⟩⟩⟩⟩⟩⟩⟩⟩⟩⟩⟩
theorem lw_p48 : lw_okq (⟨"TeethForCoins$Rates", "copyFrom", "(LTeethForCoins$Rates;)V"⟩, 2) := ⟨⟨by decide +kernel, by decide +kernel⟩, List.mem_of_getElem? (i := 88) (by decide +kernel), List.mem_of_getElem? (i := 611) (by decide +kernel), List.mem_of_getElem? (i := 612) (by decide +kernel)⟩
theorem lw_p49 : lw_okq (⟨"TeethForCoins$Slot", "giveOut", "(LTeethForCoins$Teeth;LTeethForCoins$Bargains;LTeethForCoins$Rates;)V"⟩, 4) := ⟨⟨by decide +kernel, by decide +kernel⟩, List.mem_of_getElem? (i := 151) (by decide +kernel), List.mem_of_getElem? (i := 621) (by decide +kernel), List.mem_of_getElem? (i := 622) (by decide +kernel)⟩
theorem lw_p50 : lw_okq (⟨"TeethForCoinsModel", "readMarket", "()I"⟩, 48) := ⟨⟨by decide +kernel, by decide +kernel⟩, List.mem_of_getElem? (i := 625) (by decide +kernel), List.mem_of_getElem? (i := 793) (by decide +kernel), List.mem_of_getElem? (i := 794) (by decide +kernel)⟩
theorem lw_p51 : lw_okq (⟨"TeethForCoinsModel", "figure", "(II)I"⟩, 48) := ⟨⟨by decide +kernel, by decide +kernel⟩, List.mem_of_getElem? (i := 625) (by decide +kernel), List.mem_of_getElem? (i := 797) (by decide +kernel), List.mem_of_getElem? (i := 798) (by decide +kernel)⟩
theorem lw_p52 : lw_okq (⟨"TeethForCoinsModel", "readPart", "()Z"⟩, 48) := ⟨⟨by decide +kernel, by decide +kernel⟩, List.mem_of_getElem? (i := 625) (by decide +kernel), List.mem_of_getElem? (i := 801) (by decide +kernel), List.mem_of_getElem? (i := 802) (by decide +kernel)⟩
theorem lw_p53 : lw_okq (⟨"TeethForCoinsModel", "readTooth", "(Z)Z"⟩, 48) := ⟨⟨by decide +kernel, by decide +kernel⟩, List.mem_of_getElem? (i := 625) (by decide +kernel), List.mem_of_getElem? (i := 805) (by decide +kernel), List.mem_of_getElem? (i := 806) (by decide +kernel)⟩
theorem lw_p54 : lw_okq (⟨"TeethForCoinsModel", "side", "()I"⟩, 48) := ⟨⟨by decide +kernel, by decide +kernel⟩, List.mem_of_getElem? (i := 625) (by decide +kernel), List.mem_of_getElem? (i := 809) (by decide +kernel), List.mem_of_getElem? (i := 810) (by decide +kernel)⟩
theorem lw_p55 : lw_okq (⟨"TeethForCoinsModel", "readGood", "()Z"⟩, 48) := ⟨⟨by decide +kernel, by decide +kernel⟩, List.mem_of_getElem? (i := 625) (by decide +kernel), List.mem_of_getElem? (i := 813) (by decide +kernel), List.mem_of_getElem? (i := 814) (by decide +kernel)⟩
theorem lw_p56 : lw_okq (⟨"TeethForCoinsModel", "come", "(I)V"⟩, 48) := ⟨⟨by decide +kernel, by decide +kernel⟩, List.mem_of_getElem? (i := 625) (by decide +kernel), List.mem_of_getElem? (i := 821) (by decide +kernel), List.mem_of_getElem? (i := 822) (by decide +kernel)⟩
theorem lw_p57 : lw_okq (⟨"TeethForCoinsModel", "fakes", "()I"⟩, 48) := ⟨⟨by decide +kernel, by decide +kernel⟩, List.mem_of_getElem? (i := 625) (by decide +kernel), List.mem_of_getElem? (i := 829) (by decide +kernel), List.mem_of_getElem? (i := 830) (by decide +kernel)⟩
theorem lw_p58 : lw_okq (⟨"TeethForCoinsModel", "noTooth", "(I)Z"⟩, 48) := ⟨⟨by decide +kernel, by decide +kernel⟩, List.mem_of_getElem? (i := 625) (by decide +kernel), List.mem_of_getElem? (i := 837) (by decide +kernel), List.mem_of_getElem? (i := 838) (by decide +kernel)⟩
theorem lw_p59 : lw_okq (⟨"TeethForCoinsModel", "worth", "(I)I"⟩, 48) := ⟨⟨by decide +kernel, by decide +kernel⟩, List.mem_of_getElem? (i := 625) (by decide +kernel), List.mem_of_getElem? (i := 841) (by decide +kernel), List.mem_of_getElem? (i := 842) (by decide +kernel)⟩
theorem lw_p60 : lw_okq (⟨"TeethForCoinsModel", "worthBy", "(II)I"⟩, 48) := ⟨⟨by decide +kernel, by decide +kernel⟩, List.mem_of_getElem? (i := 625) (by decide +kernel), List.mem_of_getElem? (i := 845) (by decide +kernel), List.mem_of_getElem? (i := 846) (by decide +kernel)⟩
theorem lw_p61 : lw_okq (⟨"TeethForCoinsModel", "setOf", "(I)I"⟩, 48) := ⟨⟨by decide +kernel, by decide +kernel⟩, List.mem_of_getElem? (i := 625) (by decide +kernel), List.mem_of_getElem? (i := 861) (by decide +kernel), List.mem_of_getElem? (i := 862) (by decide +kernel)⟩
theorem lw_p62 : lw_okq (⟨"TeethForCoinsModel", "worthOf", "(I)I"⟩, 48) := ⟨⟨by decide +kernel, by decide +kernel⟩, List.mem_of_getElem? (i := 625) (by decide +kernel), List.mem_of_getElem? (i := 865) (by decide +kernel), List.mem_of_getElem? (i := 866) (by decide +kernel)⟩
theorem lw_p63 : lw_okq (⟨"TeethForCoinsModel", "goHandle", "(I)V"⟩, 48) := ⟨⟨by decide +kernel, by decide +kernel⟩, List.mem_of_getElem? (i := 625) (by decide +kernel), List.mem_of_getElem? (i := 876) (by decide +kernel), List.mem_of_getElem? (i := 877) (by decide +kernel)⟩
def lw_privs_4 : List (MethodName × Nat) := [(⟨"TeethForCoins$Rates", "copyFrom", "(LTeethForCoins$Rates;)V"⟩, 2), (⟨"TeethForCoins$Slot", "giveOut", "(LTeethForCoins$Teeth;LTeethForCoins$Bargains;LTeethForCoins$Rates;)V"⟩, 4), (⟨"TeethForCoinsModel", "readMarket", "()I"⟩, 48), (⟨"TeethForCoinsModel", "figure", "(II)I"⟩, 48), (⟨"TeethForCoinsModel", "readPart", "()Z"⟩, 48), (⟨"TeethForCoinsModel", "readTooth", "(Z)Z"⟩, 48), (⟨"TeethForCoinsModel", "side", "()I"⟩, 48), (⟨"TeethForCoinsModel", "readGood", "()Z"⟩, 48), (⟨"TeethForCoinsModel", "come", "(I)V"⟩, 48), (⟨"TeethForCoinsModel", "fakes", "()I"⟩, 48), (⟨"TeethForCoinsModel", "noTooth", "(I)Z"⟩, 48), (⟨"TeethForCoinsModel", "worth", "(I)I"⟩, 48), (⟨"TeethForCoinsModel", "worthBy", "(II)I"⟩, 48), (⟨"TeethForCoinsModel", "setOf", "(I)I"⟩, 48), (⟨"TeethForCoinsModel", "worthOf", "(I)I"⟩, 48), (⟨"TeethForCoinsModel", "goHandle", "(I)V"⟩, 48)]
theorem lw_r4 : ∀ q ∈ lw_privs_4, lw_okq q := List.forall_mem_cons.mpr ⟨lw_p48, List.forall_mem_cons.mpr ⟨lw_p49, List.forall_mem_cons.mpr ⟨lw_p50, List.forall_mem_cons.mpr ⟨lw_p51, List.forall_mem_cons.mpr ⟨lw_p52, List.forall_mem_cons.mpr ⟨lw_p53, List.forall_mem_cons.mpr ⟨lw_p54, List.forall_mem_cons.mpr ⟨lw_p55, List.forall_mem_cons.mpr ⟨lw_p56, List.forall_mem_cons.mpr ⟨lw_p57, List.forall_mem_cons.mpr ⟨lw_p58, List.forall_mem_cons.mpr ⟨lw_p59, List.forall_mem_cons.mpr ⟨lw_p60, List.forall_mem_cons.mpr ⟨lw_p61, List.forall_mem_cons.mpr ⟨lw_p62, List.forall_mem_cons.mpr ⟨lw_p63, fun _ h => absurd h List.not_mem_nil⟩⟩⟩⟩⟩⟩⟩⟩⟩⟩⟩⟩⟩⟩⟩⟩
theorem lw_p64 : lw_okq (⟨"TeethForCoinsModel", "findFewest", "(III)I"⟩, 48) := ⟨⟨by decide +kernel, by decide +kernel⟩, List.mem_of_getElem? (i := 625) (by decide +kernel), List.mem_of_getElem? (i := 892) (by decide +kernel), List.mem_of_getElem? (i := 893) (by decide +kernel)⟩
theorem lw_p65 : lw_okq (⟨"TeethForCoinsModel", "lay", "([II)V"⟩, 48) := ⟨⟨by decide +kernel, by decide +kernel⟩, List.mem_of_getElem? (i := 625) (by decide +kernel), List.mem_of_getElem? (i := 910) (by decide +kernel), List.mem_of_getElem? (i := 911) (by decide +kernel)⟩
theorem lw_p66 : lw_okq (⟨"TeethForCoinsModel", "goOver", "(II)V"⟩, 48) := ⟨⟨by decide +kernel, by decide +kernel⟩, List.mem_of_getElem? (i := 625) (by decide +kernel), List.mem_of_getElem? (i := 914) (by decide +kernel), List.mem_of_getElem? (i := 915) (by decide +kernel)⟩
theorem lw_p67 : lw_okq (⟨"TeethForCoinsModel", "take", "([II)V"⟩, 48) := ⟨⟨by decide +kernel, by decide +kernel⟩, List.mem_of_getElem? (i := 625) (by decide +kernel), List.mem_of_getElem? (i := 922) (by decide +kernel), List.mem_of_getElem? (i := 923) (by decide +kernel)⟩
theorem lw_p68 : lw_okq (⟨"TeethForCoinsModel", "findMuch", "(II)I"⟩, 48) := ⟨⟨by decide +kernel, by decide +kernel⟩, List.mem_of_getElem? (i := 625) (by decide +kernel), List.mem_of_getElem? (i := 930) (by decide +kernel), List.mem_of_getElem? (i := 931) (by decide +kernel)⟩
theorem lw_p69 : lw_okq (⟨"TeethForCoinsModel", "add", "(IJ)V"⟩, 48) := ⟨⟨by decide +kernel, by decide +kernel⟩, List.mem_of_getElem? (i := 625) (by decide +kernel), List.mem_of_getElem? (i := 951) (by decide +kernel), List.mem_of_getElem? (i := 952) (by decide +kernel)⟩
theorem lw_p70 : lw_okq (⟨"TeethForCoinsModel", "findRing", "()V"⟩, 48) := ⟨⟨by decide +kernel, by decide +kernel⟩, List.mem_of_getElem? (i := 625) (by decide +kernel), List.mem_of_getElem? (i := 1004) (by decide +kernel), List.mem_of_getElem? (i := 1005) (by decide +kernel)⟩
theorem lw_p71 : lw_okq (⟨"TeethForCoinsModel", "layRing", "(II)Z"⟩, 48) := ⟨⟨by decide +kernel, by decide +kernel⟩, List.mem_of_getElem? (i := 625) (by decide +kernel), List.mem_of_getElem? (i := 1008) (by decide +kernel), List.mem_of_getElem? (i := 1009) (by decide +kernel)⟩
theorem lw_p72 : lw_okq (⟨"TeethForCoinsModel", "stolenSet", "()I"⟩, 48) := ⟨⟨by decide +kernel, by decide +kernel⟩, List.mem_of_getElem? (i := 625) (by decide +kernel), List.mem_of_getElem? (i := 1024) (by decide +kernel), List.mem_of_getElem? (i := 1025) (by decide +kernel)⟩
def lw_privs_5 : List (MethodName × Nat) := [(⟨"TeethForCoinsModel", "findFewest", "(III)I"⟩, 48), (⟨"TeethForCoinsModel", "lay", "([II)V"⟩, 48), (⟨"TeethForCoinsModel", "goOver", "(II)V"⟩, 48), (⟨"TeethForCoinsModel", "take", "([II)V"⟩, 48), (⟨"TeethForCoinsModel", "findMuch", "(II)I"⟩, 48), (⟨"TeethForCoinsModel", "add", "(IJ)V"⟩, 48), (⟨"TeethForCoinsModel", "findRing", "()V"⟩, 48), (⟨"TeethForCoinsModel", "layRing", "(II)Z"⟩, 48), (⟨"TeethForCoinsModel", "stolenSet", "()I"⟩, 48)]
theorem lw_r5 : ∀ q ∈ lw_privs_5, lw_okq q := List.forall_mem_cons.mpr ⟨lw_p64, List.forall_mem_cons.mpr ⟨lw_p65, List.forall_mem_cons.mpr ⟨lw_p66, List.forall_mem_cons.mpr ⟨lw_p67, List.forall_mem_cons.mpr ⟨lw_p68, List.forall_mem_cons.mpr ⟨lw_p69, List.forall_mem_cons.mpr ⟨lw_p70, List.forall_mem_cons.mpr ⟨lw_p71, List.forall_mem_cons.mpr ⟨lw_p72, fun _ h => absurd h List.not_mem_nil⟩⟩⟩⟩⟩⟩⟩⟩⟩
def lw_privs : List (MethodName × Nat) := lw_privs_1 ++ (lw_privs_2 ++ (lw_privs_3 ++ (lw_privs_4 ++ (lw_privs_5))))
def lw_tbl : List Cond := k2_sels lw_privs ++ tables_1
theorem lw_privs_ok : ∀ q ∈ lw_privs, lw_okq q := by
  show ∀ q ∈ lw_privs_1 ++ (lw_privs_2 ++ (lw_privs_3 ++ (lw_privs_4 ++ (lw_privs_5)))), lw_okq q
  exact List.forall_mem_append.mpr ⟨lw_r1, List.forall_mem_append.mpr ⟨lw_r2, List.forall_mem_append.mpr ⟨lw_r3, List.forall_mem_append.mpr ⟨lw_r4, lw_r5⟩⟩⟩⟩
-- ===== end of PART A; then your names; then what follows =====
/-! ===== BEGIN printed: names, fields, word lists, decode rows ===== -/
def RX0 : String := "TeethForCoins$Bargains"
def TX0 : u_T := fun k => match k with
  | 0 => ("TeethForCoins$Bargains", "ahead", "[LTeethForCoins$Teeth;", true)
  | _ => ("TeethForCoins$Bargains", "made", "I", false)
def tyX0 : Nat → FieldType := fun k => match k with
  | 0 => .array (.object "TeethForCoins$Teeth")
  | _ => .int
abbrev wsX00 : List Cond := u_ws RX0 TX0 2
theorem nmX0 : ∀ a, a < 2 → ∀ b, b < 2 → a ≠ b → (TX0 a).2.1 ≠ (TX0 b).2.1 := by decide +kernel
theorem tyX0_ok : ∀ k, k < 2 → parseFieldDescriptor (TX0 k).2.2.1 = some (tyX0 k) := by decide +kernel
abbrev cX0_init : ByteArray := prog_2_method_1_code
def yX0_init : MethodName := ⟨RX0, "<init>", "()V"⟩
abbrev cX0_remember : ByteArray := prog_2_method_2_code
def yX0_remember : MethodName := ⟨RX0, "remember", "(LTeethForCoins$Teeth;)V"⟩
abbrev cX0_takeBack : ByteArray := prog_2_method_3_code
def yX0_takeBack : MethodName := ⟨RX0, "takeBack", "(LTeethForCoins$Teeth;)V"⟩
abbrev cX0_copyFrom : ByteArray := prog_2_method_4_code
def yX0_copyFrom : MethodName := ⟨RX0, "copyFrom", "(LTeethForCoins$Bargains;)V"⟩
def RX1 : String := "TeethForCoins$Goods"
def TX1 : u_T := fun k => match k with
  | 0 => ("TeethForCoins$Goods", "prices", "[I", true)
  | 1 => ("TeethForCoins$Goods", "uses", "[I", true)
  | _ => ("TeethForCoins$Goods", "count", "I", false)
def tyX1 : Nat → FieldType := fun k => match k with
  | 0 => .array .int
  | 1 => .array .int
  | _ => .int
abbrev wsX10 : List Cond := u_ws RX1 TX1 3
theorem nmX1 : ∀ a, a < 3 → ∀ b, b < 3 → a ≠ b → (TX1 a).2.1 ≠ (TX1 b).2.1 := by decide +kernel
theorem tyX1_ok : ∀ k, k < 3 → parseFieldDescriptor (TX1 k).2.2.1 = some (tyX1 k) := by decide +kernel
abbrev cX1_init : ByteArray := prog_3_method_1_code
def yX1_init : MethodName := ⟨RX1, "<init>", "()V"⟩
abbrev cX1_add : ByteArray := prog_3_method_2_code
def yX1_add : MethodName := ⟨RX1, "add", "(II)V"⟩
abbrev cX1_priceOf : ByteArray := prog_3_method_3_code
def yX1_priceOf : MethodName := ⟨RX1, "priceOf", "(I)I"⟩
abbrev cX1_useOf : ByteArray := prog_3_method_4_code
def yX1_useOf : MethodName := ⟨RX1, "useOf", "(I)I"⟩
abbrev cX1_priceOfSet : ByteArray := prog_3_method_5_code
def yX1_priceOfSet : MethodName := ⟨RX1, "priceOfSet", "(I)I"⟩
abbrev cX1_useOfSet : ByteArray := prog_3_method_6_code
def yX1_useOfSet : MethodName := ⟨RX1, "useOfSet", "(I)I"⟩
def RX2 : String := "TeethForCoins$Least"
def TX2 : u_T := fun k => match k with
  | 0 => ("TeethForCoins$Least", "found", "Z", false)
  | 1 => ("TeethForCoins$Least", "first", "I", false)
  | 2 => ("TeethForCoins$Least", "second", "I", false)
  | _ => ("TeethForCoins$Least", "third", "I", false)
def tyX2 : Nat → FieldType := fun k => match k with
  | 0 => .boolean
  | 1 => .int
  | 2 => .int
  | _ => .int
abbrev wsX20 : List Cond := u_ws RX2 TX2 4
theorem nmX2 : ∀ a, a < 4 → ∀ b, b < 4 → a ≠ b → (TX2 a).2.1 ≠ (TX2 b).2.1 := by decide +kernel
theorem tyX2_ok : ∀ k, k < 4 → parseFieldDescriptor (TX2 k).2.2.1 = some (tyX2 k) := by decide +kernel
abbrev cX2_init : ByteArray := prog_4_method_1_code
def yX2_init : MethodName := ⟨RX2, "<init>", "()V"⟩
abbrev cX2_clear : ByteArray := prog_4_method_2_code
def yX2_clear : MethodName := ⟨RX2, "clear", "()V"⟩
abbrev cX2_offer : ByteArray := prog_4_method_3_code
def yX2_offer : MethodName := ⟨RX2, "offer", "(III)V"⟩
def RX3 : String := "TeethForCoins$Rates"
def TX3 : u_T := fun k => match k with
  | 0 => ("TeethForCoins$Rates", "got", "[I", true)
  | _ => ("TeethForCoins$Rates", "given", "[I", true)
def tyX3 : Nat → FieldType := fun k => match k with
  | 0 => .array .int
  | _ => .array .int
abbrev wsX30 : List Cond := u_ws RX3 TX3 2
theorem nmX3 : ∀ a, a < 2 → ∀ b, b < 2 → a ≠ b → (TX3 a).2.1 ≠ (TX3 b).2.1 := by decide +kernel
theorem tyX3_ok : ∀ k, k < 2 → parseFieldDescriptor (TX3 k).2.2.1 = some (tyX3 k) := by decide +kernel
abbrev cX3_init : ByteArray := prog_5_method_1_code
def yX3_init : MethodName := ⟨RX3, "<init>", "()V"⟩
abbrev cX3_gotFor : ByteArray := prog_5_method_2_code
def yX3_gotFor : MethodName := ⟨RX3, "gotFor", "(II)I"⟩
abbrev cX3_givenFor : ByteArray := prog_5_method_3_code
def yX3_givenFor : MethodName := ⟨RX3, "givenFor", "(II)I"⟩
abbrev cX3_put : ByteArray := prog_5_method_4_code
def yX3_put : MethodName := ⟨RX3, "put", "(IIII)V"⟩
abbrev cX3_copyFrom : ByteArray := prog_5_method_5_code
def yX3_copyFrom : MethodName := ⟨RX3, "copyFrom", "(LTeethForCoins$Rates;)V"⟩
def RX4 : String := "TeethForCoins$Ring"
def TX4 : u_T := fun k => match k with
  | 0 => ("TeethForCoins$Ring", "code", "I", false)
  | 1 => ("TeethForCoins$Ring", "many", "I", false)
  | 2 => ("TeethForCoins$Ring", "got", "J", false)
  | _ => ("TeethForCoins$Ring", "given", "J", false)
def tyX4 : Nat → FieldType := fun k => match k with
  | 0 => .int
  | 1 => .int
  | 2 => .long
  | _ => .long
abbrev wsX40 : List Cond := u_ws RX4 TX4 4
theorem nmX4 : ∀ a, a < 4 → ∀ b, b < 4 → a ≠ b → (TX4 a).2.1 ≠ (TX4 b).2.1 := by decide +kernel
theorem tyX4_ok : ∀ k, k < 4 → parseFieldDescriptor (TX4 k).2.2.1 = some (tyX4 k) := by decide +kernel
abbrev cX4_init : ByteArray := prog_6_method_1_code
def yX4_init : MethodName := ⟨RX4, "<init>", "()V"⟩
abbrev cX4_clear : ByteArray := prog_6_method_2_code
def yX4_clear : MethodName := ⟨RX4, "clear", "()V"⟩
abbrev cX4_moneyAt : ByteArray := prog_6_method_3_code
def yX4_moneyAt : MethodName := ⟨RX4, "moneyAt", "(III)I"⟩
abbrev cX4_isRing : ByteArray := prog_6_method_4_code
def yX4_isRing : MethodName := ⟨RX4, "isRing", "(II)Z"⟩
abbrev cX4_offer : ByteArray := prog_6_method_5_code
def yX4_offer : MethodName := ⟨RX4, "offer", "(LTeethForCoins$Rates;II)V"⟩
def RX5 : String := "TeethForCoins$Slot"
def TX5 : u_T := fun k => match k with
  | 0 => ("TeethForCoins$Slot", "teeth", "LTeethForCoins$Teeth;", true)
  | 1 => ("TeethForCoins$Slot", "bargains", "LTeethForCoins$Bargains;", true)
  | 2 => ("TeethForCoins$Slot", "rates", "LTeethForCoins$Rates;", true)
  | _ => ("TeethForCoins$Slot", "full", "Z", false)
def tyX5 : Nat → FieldType := fun k => match k with
  | 0 => .object "TeethForCoins$Teeth"
  | 1 => .object "TeethForCoins$Bargains"
  | 2 => .object "TeethForCoins$Rates"
  | _ => .boolean
abbrev wsX50 : List Cond := u_ws RX5 TX5 4
theorem nmX5 : ∀ a, a < 4 → ∀ b, b < 4 → a ≠ b → (TX5 a).2.1 ≠ (TX5 b).2.1 := by decide +kernel
theorem tyX5_ok : ∀ k, k < 4 → parseFieldDescriptor (TX5 k).2.2.1 = some (tyX5 k) := by decide +kernel
abbrev cX5_init : ByteArray := prog_7_method_1_code
def yX5_init : MethodName := ⟨RX5, "<init>", "()V"⟩
abbrev cX5_takeIn : ByteArray := prog_7_method_2_code
def yX5_takeIn : MethodName := ⟨RX5, "takeIn", "(LTeethForCoins$Teeth;LTeethForCoins$Bargains;LTeethForCoins$Rates;)V"⟩
abbrev cX5_giveOut : ByteArray := prog_7_method_3_code
def yX5_giveOut : MethodName := ⟨RX5, "giveOut", "(LTeethForCoins$Teeth;LTeethForCoins$Bargains;LTeethForCoins$Rates;)V"⟩
def RX6 : String := "TeethForCoins$Teeth"
def TX6 : u_T := fun k => match k with
  | 0 => ("TeethForCoins$Teeth", "cells", "[I", true)
  | _ => ("TeethForCoins$Teeth", "count", "I", false)
def tyX6 : Nat → FieldType := fun k => match k with
  | 0 => .array .int
  | _ => .int
abbrev wsX60 : List Cond := u_ws RX6 TX6 2
theorem nmX6 : ∀ a, a < 2 → ∀ b, b < 2 → a ≠ b → (TX6 a).2.1 ≠ (TX6 b).2.1 := by decide +kernel
theorem tyX6_ok : ∀ k, k < 2 → parseFieldDescriptor (TX6 k).2.2.1 = some (tyX6 k) := by decide +kernel
abbrev cX6_init : ByteArray := prog_8_method_1_code
def yX6_init : MethodName := ⟨RX6, "<init>", "()V"⟩
abbrev cX6_get : ByteArray := prog_8_method_2_code
def yX6_get : MethodName := ⟨RX6, "get", "(II)I"⟩
abbrev cX6_set : ByteArray := prog_8_method_3_code
def yX6_set : MethodName := ⟨RX6, "set", "(III)V"⟩
abbrev cX6_add : ByteArray := prog_8_method_4_code
def yX6_add : MethodName := ⟨RX6, "add", "(IZI)I"⟩
abbrev cX6_passTo : ByteArray := prog_8_method_5_code
def yX6_passTo : MethodName := ⟨RX6, "passTo", "(II)V"⟩
abbrev cX6_traceOf : ByteArray := prog_8_method_6_code
def yX6_traceOf : MethodName := ⟨RX6, "traceOf", "(II)I"⟩
abbrev cX6_wearDown : ByteArray := prog_8_method_7_code
def yX6_wearDown : MethodName := ⟨RX6, "wearDown", "(I)V"⟩
abbrev cX6_ownedBy : ByteArray := prog_8_method_8_code
def yX6_ownedBy : MethodName := ⟨RX6, "ownedBy", "(I)I"⟩
abbrev cX6_fakes : ByteArray := prog_8_method_9_code
def yX6_fakes : MethodName := ⟨RX6, "fakes", "()I"⟩
abbrev cX6_wearTooMuch : ByteArray := prog_8_method_10_code
def yX6_wearTooMuch : MethodName := ⟨RX6, "wearTooMuch", "(I)I"⟩
abbrev cX6_wearTooMuchOf : ByteArray := prog_8_method_11_code
def yX6_wearTooMuchOf : MethodName := ⟨RX6, "wearTooMuchOf", "(I)I"⟩
abbrev cX6_copyFrom : ByteArray := prog_8_method_12_code
def yX6_copyFrom : MethodName := ⟨RX6, "copyFrom", "(LTeethForCoins$Teeth;)V"⟩
abbrev cX6_takeBack : ByteArray := prog_8_method_13_code
def yX6_takeBack : MethodName := ⟨RX6, "takeBack", "(LTeethForCoins$Teeth;)V"⟩
abbrev cX6_copyCells : ByteArray := prog_8_method_14_code
def yX6_copyCells : MethodName := ⟨RX6, "copyCells", "(LTeethForCoins$Teeth;II)V"⟩
def RX7 : String := "TeethForCoins$Text"
def TX7 : u_T := fun k => match k with
  | 0 => ("TeethForCoins$Text", "bytes", "[B", true)
  | _ => ("TeethForCoins$Text", "length", "I", false)
def tyX7 : Nat → FieldType := fun k => match k with
  | 0 => .array .byte
  | _ => .int
abbrev wsX70 : List Cond := u_ws RX7 TX7 2
theorem nmX7 : ∀ a, a < 2 → ∀ b, b < 2 → a ≠ b → (TX7 a).2.1 ≠ (TX7 b).2.1 := by decide +kernel
theorem tyX7_ok : ∀ k, k < 2 → parseFieldDescriptor (TX7 k).2.2.1 = some (tyX7 k) := by decide +kernel
abbrev cX7_init : ByteArray := prog_9_method_1_code
def yX7_init : MethodName := ⟨RX7, "<init>", "()V"⟩
abbrev cX7_append : ByteArray := prog_9_method_2_code
def yX7_append : MethodName := ⟨RX7, "append", "(B)V"⟩
abbrev cX7_byteAt : ByteArray := prog_9_method_3_code
def yX7_byteAt : MethodName := ⟨RX7, "byteAt", "(I)I"⟩
abbrev cX7_figureAt : ByteArray := prog_9_method_4_code
def yX7_figureAt : MethodName := ⟨RX7, "figureAt", "(I)I"⟩
abbrev cX7_tellsTooth : ByteArray := prog_9_method_5_code
def yX7_tellsTooth : MethodName := ⟨RX7, "tellsTooth", "(I)Z"⟩
abbrev cX7_partLength : ByteArray := prog_9_method_6_code
def yX7_partLength : MethodName := ⟨RX7, "partLength", "(I)I"⟩
abbrev cX7_faultPlace : ByteArray := prog_9_method_7_code
def yX7_faultPlace : MethodName := ⟨RX7, "faultPlace", "()I"⟩
abbrev cX7_mayBegin : ByteArray := prog_9_method_8_code
def yX7_mayBegin : MethodName := ⟨RX7, "mayBegin", "(III)Z"⟩
abbrev cX7_mayFollow : ByteArray := prog_9_method_9_code
def yX7_mayFollow : MethodName := ⟨RX7, "mayFollow", "(III)Z"⟩
def RX8 : String := "TeethForCoins"
def TX8 : u_T := fun k => match k with
  | 0 => ("TeethForCoins", "text", "LTeethForCoins$Text;", true)
  | 1 => ("TeethForCoins", "teeth", "LTeethForCoins$Teeth;", true)
  | 2 => ("TeethForCoins", "goods", "LTeethForCoins$Goods;", true)
  | 3 => ("TeethForCoins", "bargains", "LTeethForCoins$Bargains;", true)
  | 4 => ("TeethForCoins", "rates", "LTeethForCoins$Rates;", true)
  | 5 => ("TeethForCoins", "slots", "[LTeethForCoins$Slot;", true)
  | 6 => ("TeethForCoins", "lossByWear", "I", false)
  | 7 => ("TeethForCoins", "timesOfLeft", "I", false)
  | 8 => ("TeethForCoins", "least", "LTeethForCoins$Least;", true)
  | 9 => ("TeethForCoins", "best", "LTeethForCoins$Ring;", true)
  | 10 => ("TeethForCoins", "balances", "[I", true)
  | _ => ("TeethForCoins", "payable", "[I", true)
def tyX8 : Nat → FieldType := fun k => match k with
  | 0 => .object "TeethForCoins$Text"
  | 1 => .object "TeethForCoins$Teeth"
  | 2 => .object "TeethForCoins$Goods"
  | 3 => .object "TeethForCoins$Bargains"
  | 4 => .object "TeethForCoins$Rates"
  | 5 => .array (.object "TeethForCoins$Slot")
  | 6 => .int
  | 7 => .int
  | 8 => .object "TeethForCoins$Least"
  | 9 => .object "TeethForCoins$Ring"
  | 10 => .array .int
  | _ => .array .int
abbrev wsX80 : List Cond := u_ws RX8 TX8 12
theorem nmX8 : ∀ a, a < 12 → ∀ b, b < 12 → a ≠ b → (TX8 a).2.1 ≠ (TX8 b).2.1 := by decide +kernel
theorem tyX8_ok : ∀ k, k < 12 → parseFieldDescriptor (TX8 k).2.2.1 = some (tyX8 k) := by decide +kernel
abbrev cX8_init : ByteArray := prog_1_method_1_code
def yX8_init : MethodName := ⟨RX8, "<init>", "()V"⟩
abbrev cX8_write : ByteArray := prog_1_method_2_code
def yX8_write : MethodName := ⟨RX8, "write", "(IJ)I"⟩
abbrev cX8_wipe : ByteArray := prog_1_method_3_code
def yX8_wipe : MethodName := ⟨RX8, "wipe", "()I"⟩
abbrev cX8_fault : ByteArray := prog_1_method_4_code
def yX8_fault : MethodName := ⟨RX8, "fault", "()I"⟩
abbrev cX8_market : ByteArray := prog_1_method_5_code
def yX8_market : MethodName := ⟨RX8, "market", "()I"⟩
abbrev cX8_about : ByteArray := prog_1_method_6_code
def yX8_about : MethodName := ⟨RX8, "about", "(I)I"⟩
abbrev cX8_tooth : ByteArray := prog_1_method_7_code
def yX8_tooth : MethodName := ⟨RX8, "tooth", "(II)I"⟩
abbrev cX8_good : ByteArray := prog_1_method_8_code
def yX8_good : MethodName := ⟨RX8, "good", "(II)I"⟩
abbrev cX8_purse : ByteArray := prog_1_method_9_code
def yX8_purse : MethodName := ⟨RX8, "purse", "(I)I"⟩
abbrev cX8_handle : ByteArray := prog_1_method_10_code
def yX8_handle : MethodName := ⟨RX8, "handle", "(I)I"⟩
abbrev cX8_bite : ByteArray := prog_1_method_11_code
def yX8_bite : MethodName := ⟨RX8, "bite", "(I)I"⟩
abbrev cX8_fewest : ByteArray := prog_1_method_12_code
def yX8_fewest : MethodName := ⟨RX8, "fewest", "(III)I"⟩
abbrev cX8_paid : ByteArray := prog_1_method_13_code
def yX8_paid : MethodName := ⟨RX8, "paid", "(IIIZ)I"⟩
abbrev cX8_pay : ByteArray := prog_1_method_14_code
def yX8_pay : MethodName := ⟨RX8, "pay", "(III)I"⟩
abbrev cX8_undo : ByteArray := prog_1_method_15_code
def yX8_undo : MethodName := ⟨RX8, "undo", "()I"⟩
abbrev cX8_tooMuch : ByteArray := prog_1_method_16_code
def yX8_tooMuch : MethodName := ⟨RX8, "tooMuch", "(IIZ)I"⟩
abbrev cX8_sums : ByteArray := prog_1_method_17_code
def yX8_sums : MethodName := ⟨RX8, "sums", "(III)I"⟩
abbrev cX8_spent : ByteArray := prog_1_method_18_code
def yX8_spent : MethodName := ⟨RX8, "spent", "(IZ)I"⟩
abbrev cX8_caught : ByteArray := prog_1_method_19_code
def yX8_caught : MethodName := ⟨RX8, "caught", "(IJ)I"⟩
abbrev cX8_washed : ByteArray := prog_1_method_20_code
def yX8_washed : MethodName := ⟨RX8, "washed", "(IJ)I"⟩
abbrev cX8_life : ByteArray := prog_1_method_21_code
def yX8_life : MethodName := ⟨RX8, "life", "(II)I"⟩
abbrev cX8_trace : ByteArray := prog_1_method_22_code
def yX8_trace : MethodName := ⟨RX8, "trace", "(II)I"⟩
abbrev cX8_inflated : ByteArray := prog_1_method_23_code
def yX8_inflated : MethodName := ⟨RX8, "inflated", "(II)I"⟩
abbrev cX8_doubt : ByteArray := prog_1_method_24_code
def yX8_doubt : MethodName := ⟨RX8, "doubt", "(IIIIIZ)J"⟩
abbrev cX8_among : ByteArray := prog_1_method_25_code
def yX8_among : MethodName := ⟨RX8, "among", "(IIIZ)J"⟩
abbrev cX8_rate : ByteArray := prog_1_method_26_code
def yX8_rate : MethodName := ⟨RX8, "rate", "(IIII)I"⟩
abbrev cX8_ring : ByteArray := prog_1_method_27_code
def yX8_ring : MethodName := ⟨RX8, "ring", "(Z)J"⟩
abbrev cX8_ringAt : ByteArray := prog_1_method_28_code
def yX8_ringAt : MethodName := ⟨RX8, "ringAt", "(I)I"⟩
abbrev cX8_should : ByteArray := prog_1_method_29_code
def yX8_should : MethodName := ⟨RX8, "should", "(II)I"⟩
abbrev cX8_stolen : ByteArray := prog_1_method_30_code
def yX8_stolen : MethodName := ⟨RX8, "stolen", "()I"⟩
abbrev cX8_thief : ByteArray := prog_1_method_31_code
def yX8_thief : MethodName := ⟨RX8, "thief", "()I"⟩
abbrev cX8_keep : ByteArray := prog_1_method_32_code
def yX8_keep : MethodName := ⟨RX8, "keep", "(I)I"⟩
abbrev cX8_again : ByteArray := prog_1_method_33_code
def yX8_again : MethodName := ⟨RX8, "again", "(I)I"⟩
abbrev cX8_isTooth : ByteArray := prog_1_method_34_code
def yX8_isTooth : MethodName := ⟨RX8, "isTooth", "(I)Z"⟩
abbrev cX8_isGood : ByteArray := prog_1_method_35_code
def yX8_isGood : MethodName := ⟨RX8, "isGood", "(I)Z"⟩
abbrev cX8_isSlot : ByteArray := prog_1_method_36_code
def yX8_isSlot : MethodName := ⟨RX8, "isSlot", "(I)Z"⟩
abbrev cX8_isPerson : ByteArray := prog_1_method_37_code
def yX8_isPerson : MethodName := ⟨RX8, "isPerson", "(I)Z"⟩
abbrev cX8_isMoney : ByteArray := prog_1_method_38_code
def yX8_isMoney : MethodName := ⟨RX8, "isMoney", "(I)Z"⟩
abbrev cX8_isPrice : ByteArray := prog_1_method_39_code
def yX8_isPrice : MethodName := ⟨RX8, "isPrice", "(I)Z"⟩
abbrev cX8_isTenths : ByteArray := prog_1_method_40_code
def yX8_isTenths : MethodName := ⟨RX8, "isTenths", "(I)Z"⟩
abbrev cX8_paymentRefusal : ByteArray := prog_1_method_41_code
def yX8_paymentRefusal : MethodName := ⟨RX8, "paymentRefusal", "(III)I"⟩
abbrev cX8_readPart : ByteArray := prog_1_method_42_code
def yX8_readPart : MethodName := ⟨RX8, "readPart", "(I)V"⟩
abbrev cX8_worthWorn : ByteArray := prog_1_method_43_code
def yX8_worthWorn : MethodName := ⟨RX8, "worthWorn", "(II)I"⟩
abbrev cX8_worthOf : ByteArray := prog_1_method_44_code
def yX8_worthOf : MethodName := ⟨RX8, "worthOf", "(I)I"⟩
abbrev cX8_worthOfSet : ByteArray := prog_1_method_45_code
def yX8_worthOfSet : MethodName := ⟨RX8, "worthOfSet", "(I)I"⟩
abbrev cX8_setsOfTeeth : ByteArray := prog_1_method_46_code
def yX8_setsOfTeeth : MethodName := ⟨RX8, "setsOfTeeth", "()I"⟩
abbrev cX8_weighSets : ByteArray := prog_1_method_47_code
def yX8_weighSets : MethodName := ⟨RX8, "weighSets", "(I)V"⟩
abbrev cX8_seekFewest : ByteArray := prog_1_method_48_code
def yX8_seekFewest : MethodName := ⟨RX8, "seekFewest", "(III)V"⟩
abbrev cX8_seekTooMuch : ByteArray := prog_1_method_49_code
def yX8_seekTooMuch : MethodName := ⟨RX8, "seekTooMuch", "(II)V"⟩
abbrev cX8_handOver : ByteArray := prog_1_method_50_code
def yX8_handOver : MethodName := ⟨RX8, "handOver", "(II)V"⟩
abbrev cX8_drawFrom : ByteArray := prog_1_method_51_code
def yX8_drawFrom : MethodName := ⟨RX8, "drawFrom", "(J)J"⟩
abbrev cX8_addDrawn : ByteArray := prog_1_method_52_code
def yX8_addDrawn : MethodName := ⟨RX8, "addDrawn", "(IJ)V"⟩
abbrev cX8_power : ByteArray := prog_1_method_53_code
def yX8_power : MethodName := ⟨RX8, "power", "(JI)J"⟩
abbrev cX8_ofFraction : ByteArray := prog_1_method_54_code
def yX8_ofFraction : MethodName := ⟨RX8, "ofFraction", "(JJZ)J"⟩
abbrev cX8_commonDivisor : ByteArray := prog_1_method_55_code
def yX8_commonDivisor : MethodName := ⟨RX8, "commonDivisor", "(JJ)J"⟩
abbrev cX8_seekRing : ByteArray := prog_1_method_56_code
def yX8_seekRing : MethodName := ⟨RX8, "seekRing", "()V"⟩
def RX9 : String := "TeethForCoinsModel"
def TX9 : u_T := fun k => match k with
  | 0 => ("TeethForCoinsModel", "thrown", "I", false)
  | 1 => ("TeethForCoinsModel", "text", "[I", true)
  | 2 => ("TeethForCoinsModel", "textSize", "I", false)
  | 3 => ("TeethForCoinsModel", "place", "I", false)
  | 4 => ("TeethForCoinsModel", "loss", "I", false)
  | 5 => ("TeethForCoinsModel", "times", "I", false)
  | 6 => ("TeethForCoinsModel", "teeth", "I", false)
  | 7 => ("TeethForCoinsModel", "size", "[I", true)
  | 8 => ("TeethForCoinsModel", "left", "[Z", true)
  | 9 => ("TeethForCoinsModel", "wear", "[I", true)
  | 10 => ("TeethForCoinsModel", "owner", "[I", true)
  | 11 => ("TeethForCoinsModel", "fake", "[Z", true)
  | 12 => ("TeethForCoinsModel", "should", "[I", true)
  | 13 => ("TeethForCoinsModel", "traces", "[I", true)
  | 14 => ("TeethForCoinsModel", "trace", "[I", true)
  | 15 => ("TeethForCoinsModel", "goods", "I", false)
  | 16 => ("TeethForCoinsModel", "price", "[I", true)
  | 17 => ("TeethForCoinsModel", "use", "[I", true)
  | 18 => ("TeethForCoinsModel", "readLoss", "I", false)
  | 19 => ("TeethForCoinsModel", "readTimes", "I", false)
  | 20 => ("TeethForCoinsModel", "readTeeth", "I", false)
  | 21 => ("TeethForCoinsModel", "readGoods", "I", false)
  | 22 => ("TeethForCoinsModel", "readSize", "[I", true)
  | 23 => ("TeethForCoinsModel", "readLeft", "[Z", true)
  | 24 => ("TeethForCoinsModel", "readWear", "[I", true)
  | 25 => ("TeethForCoinsModel", "readOwner", "[I", true)
  | 26 => ("TeethForCoinsModel", "readFake", "[Z", true)
  | 27 => ("TeethForCoinsModel", "readPrice", "[I", true)
  | 28 => ("TeethForCoinsModel", "readUse", "[I", true)
  | 29 => ("TeethForCoinsModel", "book", "[I", true)
  | 30 => ("TeethForCoinsModel", "bargains", "I", false)
  | 31 => ("TeethForCoinsModel", "above", "[I", true)
  | 32 => ("TeethForCoinsModel", "below", "[I", true)
  | 33 => ("TeethForCoinsModel", "keptPage", "[I", true)
  | 34 => ("TeethForCoinsModel", "keptMore", "[I", true)
  | 35 => ("TeethForCoinsModel", "keptBook", "[I", true)
  | 36 => ("TeethForCoinsModel", "keptRates", "[I", true)
  | 37 => ("TeethForCoinsModel", "isKept", "[Z", true)
  | 38 => ("TeethForCoinsModel", "keptBargains", "[I", true)
  | 39 => ("TeethForCoinsModel", "paidSet", "I", false)
  | 40 => ("TeethForCoinsModel", "changeSet", "I", false)
  | 41 => ("TeethForCoinsModel", "bestSet", "I", false)
  | 42 => ("TeethForCoinsModel", "ring", "[I", true)
  | 43 => ("TeethForCoinsModel", "tried", "[I", true)
  | 44 => ("TeethForCoinsModel", "ringMany", "I", false)
  | 45 => ("TeethForCoinsModel", "ringUp", "J", false)
  | 46 => ("TeethForCoinsModel", "ringDown", "J", false)
  | _ => ("TeethForCoinsModel", "can", "[Z", true)
def tyX9 : Nat → FieldType := fun k => match k with
  | 0 => .int
  | 1 => .array .int
  | 2 => .int
  | 3 => .int
  | 4 => .int
  | 5 => .int
  | 6 => .int
  | 7 => .array .int
  | 8 => .array .boolean
  | 9 => .array .int
  | 10 => .array .int
  | 11 => .array .boolean
  | 12 => .array .int
  | 13 => .array .int
  | 14 => .array .int
  | 15 => .int
  | 16 => .array .int
  | 17 => .array .int
  | 18 => .int
  | 19 => .int
  | 20 => .int
  | 21 => .int
  | 22 => .array .int
  | 23 => .array .boolean
  | 24 => .array .int
  | 25 => .array .int
  | 26 => .array .boolean
  | 27 => .array .int
  | 28 => .array .int
  | 29 => .array .int
  | 30 => .int
  | 31 => .array .int
  | 32 => .array .int
  | 33 => .array .int
  | 34 => .array .int
  | 35 => .array .int
  | 36 => .array .int
  | 37 => .array .boolean
  | 38 => .array .int
  | 39 => .int
  | 40 => .int
  | 41 => .int
  | 42 => .array .int
  | 43 => .array .int
  | 44 => .int
  | 45 => .long
  | 46 => .long
  | _ => .array .boolean
abbrev wsX90 : List Cond := u_ws RX9 TX9 48
theorem nmX9 : ∀ a, a < 48 → ∀ b, b < 48 → a ≠ b → (TX9 a).2.1 ≠ (TX9 b).2.1 := by decide +kernel
theorem tyX9_ok : ∀ k, k < 48 → parseFieldDescriptor (TX9 k).2.2.1 = some (tyX9 k) := by decide +kernel
abbrev cX9_init : ByteArray := prog_11_method_1_code
def yX9_init : MethodName := ⟨RX9, "<init>", "()V"⟩
abbrev cX9_in : ByteArray := prog_11_method_3_code
def yX9_in : MethodName := ⟨RX9, "in", "(JJJ)Z"⟩
abbrev cX9_has : ByteArray := prog_11_method_4_code
def yX9_has : MethodName := ⟨RX9, "has", "(II)Z"⟩
abbrev cX9_many : ByteArray := prog_11_method_5_code
def yX9_many : MethodName := ⟨RX9, "many", "(I)I"⟩
abbrev cX9_noTooth : ByteArray := prog_11_method_6_code
def yX9_noTooth : MethodName := ⟨RX9, "noTooth", "(I)Z"⟩
abbrev cX9_noOne : ByteArray := prog_11_method_7_code
def yX9_noOne : MethodName := ⟨RX9, "noOne", "(I)Z"⟩
abbrev cX9_write : ByteArray := prog_11_method_8_code
def yX9_write : MethodName := ⟨RX9, "write", "(IJ)I"⟩
abbrev cX9_wipe : ByteArray := prog_11_method_9_code
def yX9_wipe : MethodName := ⟨RX9, "wipe", "()I"⟩
abbrev cX9_figure : ByteArray := prog_11_method_10_code
def yX9_figure : MethodName := ⟨RX9, "figure", "(II)I"⟩
abbrev cX9_side : ByteArray := prog_11_method_11_code
def yX9_side : MethodName := ⟨RX9, "side", "()I"⟩
abbrev cX9_readTooth : ByteArray := prog_11_method_12_code
def yX9_readTooth : MethodName := ⟨RX9, "readTooth", "(Z)Z"⟩
abbrev cX9_readGood : ByteArray := prog_11_method_13_code
def yX9_readGood : MethodName := ⟨RX9, "readGood", "()Z"⟩
abbrev cX9_readPart : ByteArray := prog_11_method_14_code
def yX9_readPart : MethodName := ⟨RX9, "readPart", "()Z"⟩
abbrev cX9_readMarket : ByteArray := prog_11_method_15_code
def yX9_readMarket : MethodName := ⟨RX9, "readMarket", "()I"⟩
abbrev cX9_fault : ByteArray := prog_11_method_16_code
def yX9_fault : MethodName := ⟨RX9, "fault", "()I"⟩
abbrev cX9_come : ByteArray := prog_11_method_17_code
def yX9_come : MethodName := ⟨RX9, "come", "(I)V"⟩
abbrev cX9_market : ByteArray := prog_11_method_18_code
def yX9_market : MethodName := ⟨RX9, "market", "()I"⟩
abbrev cX9_fakes : ByteArray := prog_11_method_19_code
def yX9_fakes : MethodName := ⟨RX9, "fakes", "()I"⟩
abbrev cX9_about : ByteArray := prog_11_method_20_code
def yX9_about : MethodName := ⟨RX9, "about", "(I)I"⟩
abbrev cX9_worthBy : ByteArray := prog_11_method_21_code
def yX9_worthBy : MethodName := ⟨RX9, "worthBy", "(II)I"⟩
abbrev cX9_worth : ByteArray := prog_11_method_22_code
def yX9_worth : MethodName := ⟨RX9, "worth", "(I)I"⟩
abbrev cX9_tooth : ByteArray := prog_11_method_23_code
def yX9_tooth : MethodName := ⟨RX9, "tooth", "(II)I"⟩
abbrev cX9_good : ByteArray := prog_11_method_24_code
def yX9_good : MethodName := ⟨RX9, "good", "(II)I"⟩
abbrev cX9_setOf : ByteArray := prog_11_method_25_code
def yX9_setOf : MethodName := ⟨RX9, "setOf", "(I)I"⟩
abbrev cX9_worthOf : ByteArray := prog_11_method_26_code
def yX9_worthOf : MethodName := ⟨RX9, "worthOf", "(I)I"⟩
abbrev cX9_purse : ByteArray := prog_11_method_27_code
def yX9_purse : MethodName := ⟨RX9, "purse", "(I)I"⟩
abbrev cX9_goHandle : ByteArray := prog_11_method_28_code
def yX9_goHandle : MethodName := ⟨RX9, "goHandle", "(I)V"⟩
abbrev cX9_handle : ByteArray := prog_11_method_29_code
def yX9_handle : MethodName := ⟨RX9, "handle", "(I)I"⟩
abbrev cX9_bite : ByteArray := prog_11_method_30_code
def yX9_bite : MethodName := ⟨RX9, "bite", "(I)I"⟩
abbrev cX9_next : ByteArray := prog_11_method_31_code
def yX9_next : MethodName := ⟨RX9, "next", "(II)I"⟩
abbrev cX9_findFewest : ByteArray := prog_11_method_32_code
def yX9_findFewest : MethodName := ⟨RX9, "findFewest", "(III)I"⟩
abbrev cX9_noPay : ByteArray := prog_11_method_33_code
def yX9_noPay : MethodName := ⟨RX9, "noPay", "(III)I"⟩
abbrev cX9_fewest : ByteArray := prog_11_method_34_code
def yX9_fewest : MethodName := ⟨RX9, "fewest", "(III)I"⟩
abbrev cX9_paid : ByteArray := prog_11_method_35_code
def yX9_paid : MethodName := ⟨RX9, "paid", "(IIIZ)I"⟩
abbrev cX9_lay : ByteArray := prog_11_method_36_code
def yX9_lay : MethodName := ⟨RX9, "lay", "([II)V"⟩
abbrev cX9_take : ByteArray := prog_11_method_37_code
def yX9_take : MethodName := ⟨RX9, "take", "([II)V"⟩
abbrev cX9_goOver : ByteArray := prog_11_method_38_code
def yX9_goOver : MethodName := ⟨RX9, "goOver", "(II)V"⟩
abbrev cX9_pay : ByteArray := prog_11_method_39_code
def yX9_pay : MethodName := ⟨RX9, "pay", "(III)I"⟩
abbrev cX9_undo : ByteArray := prog_11_method_40_code
def yX9_undo : MethodName := ⟨RX9, "undo", "()I"⟩
abbrev cX9_findMuch : ByteArray := prog_11_method_41_code
def yX9_findMuch : MethodName := ⟨RX9, "findMuch", "(II)I"⟩
abbrev cX9_tooMuch : ByteArray := prog_11_method_42_code
def yX9_tooMuch : MethodName := ⟨RX9, "tooMuch", "(IIZ)I"⟩
abbrev cX9_sums : ByteArray := prog_11_method_43_code
def yX9_sums : MethodName := ⟨RX9, "sums", "(III)I"⟩
abbrev cX9_spent : ByteArray := prog_11_method_44_code
def yX9_spent : MethodName := ⟨RX9, "spent", "(IZ)I"⟩
abbrev cX9_add : ByteArray := prog_11_method_45_code
def yX9_add : MethodName := ⟨RX9, "add", "(IJ)V"⟩
abbrev cX9_draw : ByteArray := prog_11_method_46_code
def yX9_draw : MethodName := ⟨RX9, "draw", "(J)J"⟩
abbrev cX9_caught : ByteArray := prog_11_method_47_code
def yX9_caught : MethodName := ⟨RX9, "caught", "(IJ)I"⟩
abbrev cX9_washed : ByteArray := prog_11_method_48_code
def yX9_washed : MethodName := ⟨RX9, "washed", "(IJ)I"⟩
abbrev cX9_life : ByteArray := prog_11_method_49_code
def yX9_life : MethodName := ⟨RX9, "life", "(II)I"⟩
abbrev cX9_trace : ByteArray := prog_11_method_50_code
def yX9_trace : MethodName := ⟨RX9, "trace", "(II)I"⟩
abbrev cX9_inflated : ByteArray := prog_11_method_51_code
def yX9_inflated : MethodName := ⟨RX9, "inflated", "(II)I"⟩
abbrev cX9_told : ByteArray := prog_11_method_52_code
def yX9_told : MethodName := ⟨RX9, "told", "(JJZ)J"⟩
abbrev cX9_power : ByteArray := prog_11_method_53_code
def yX9_power : MethodName := ⟨RX9, "power", "(JI)J"⟩
abbrev cX9_noTenths : ByteArray := prog_11_method_54_code
def yX9_noTenths : MethodName := ⟨RX9, "noTenths", "(I)Z"⟩
abbrev cX9_doubt : ByteArray := prog_11_method_55_code
def yX9_doubt : MethodName := ⟨RX9, "doubt", "(IIIIIZ)J"⟩
abbrev cX9_among : ByteArray := prog_11_method_56_code
def yX9_among : MethodName := ⟨RX9, "among", "(IIIZ)J"⟩
abbrev cX9_rate : ByteArray := prog_11_method_57_code
def yX9_rate : MethodName := ⟨RX9, "rate", "(IIII)I"⟩
abbrev cX9_layRing : ByteArray := prog_11_method_58_code
def yX9_layRing : MethodName := ⟨RX9, "layRing", "(II)Z"⟩
abbrev cX9_findRing : ByteArray := prog_11_method_59_code
def yX9_findRing : MethodName := ⟨RX9, "findRing", "()V"⟩
abbrev cX9_ring : ByteArray := prog_11_method_60_code
def yX9_ring : MethodName := ⟨RX9, "ring", "(Z)J"⟩
abbrev cX9_ringAt : ByteArray := prog_11_method_61_code
def yX9_ringAt : MethodName := ⟨RX9, "ringAt", "(I)I"⟩
abbrev cX9_should : ByteArray := prog_11_method_62_code
def yX9_should : MethodName := ⟨RX9, "should", "(II)I"⟩
abbrev cX9_stolenSet : ByteArray := prog_11_method_63_code
def yX9_stolenSet : MethodName := ⟨RX9, "stolenSet", "()I"⟩
abbrev cX9_stolen : ByteArray := prog_11_method_64_code
def yX9_stolen : MethodName := ⟨RX9, "stolen", "()I"⟩
abbrev cX9_thief : ByteArray := prog_11_method_65_code
def yX9_thief : MethodName := ⟨RX9, "thief", "()I"⟩
abbrev cX9_keep : ByteArray := prog_11_method_66_code
def yX9_keep : MethodName := ⟨RX9, "keep", "(I)I"⟩
abbrev cX9_again : ByteArray := prog_11_method_67_code
def yX9_again : MethodName := ⟨RX9, "again", "(I)I"⟩
def RJ6 : String := "java/lang/Integer"
def TJ6 : u_T := fun k => match k with
  | _ => ("", "", "", false)
def tyJ6 : Nat → FieldType := fun k => match k with
  | _ => .int
abbrev wsJ60 : List Cond := u_ws RJ6 TJ6 0
theorem nmJ6 : ∀ a, a < 0 → ∀ b, b < 0 → a ≠ b → (TJ6 a).2.1 ≠ (TJ6 b).2.1 := by decide +kernel
theorem tyJ6_ok : ∀ k, k < 0 → parseFieldDescriptor (TJ6 k).2.2.1 = some (tyJ6 k) := by decide +kernel
abbrev cJ6_bitCount_0f7a4 : ByteArray := prog_12_method_49_code
def yJ6_bitCount_0f7a4 : MethodName := ⟨RJ6, "bitCount", "(I)I"⟩
def RJ9 : String := "java/lang/Math"
def TJ9 : u_T := fun k => match k with
  | _ => ("", "", "", false)
def tyJ9 : Nat → FieldType := fun k => match k with
  | _ => .int
abbrev wsJ90 : List Cond := u_ws RJ9 TJ9 0
theorem nmJ9 : ∀ a, a < 0 → ∀ b, b < 0 → a ≠ b → (TJ9 a).2.1 ≠ (TJ9 b).2.1 := by decide +kernel
theorem tyJ9_ok : ∀ k, k < 0 → parseFieldDescriptor (TJ9 k).2.2.1 = some (tyJ9 k) := by decide +kernel
abbrev cJ9_max_7cf53 : ByteArray := prog_13_method_65_code
def yJ9_max_7cf53 : MethodName := ⟨RJ9, "max", "(II)I"⟩
abbrev cJ9_min_7cf53 : ByteArray := prog_13_method_69_code
def yJ9_min_7cf53 : MethodName := ⟨RJ9, "min", "(II)I"⟩
def RJ10 : String := "java/lang/System"
def TJ10 : u_T := fun k => match k with
  | _ => ("", "", "", false)
def tyJ10 : Nat → FieldType := fun k => match k with
  | _ => .int
abbrev wsJ100 : List Cond := u_ws RJ10 TJ10 0
theorem nmJ10 : ∀ a, a < 0 → ∀ b, b < 0 → a ≠ b → (TJ10 a).2.1 ≠ (TJ10 b).2.1 := by decide +kernel
theorem tyJ10_ok : ∀ k, k < 0 → parseFieldDescriptor (TJ10 k).2.2.1 = some (tyJ10 k) := by decide +kernel
def RJ7 : String := "java/util/Arrays"
def TJ7 : u_T := fun k => match k with
  | _ => ("", "", "", false)
def tyJ7 : Nat → FieldType := fun k => match k with
  | _ => .int
abbrev wsJ70 : List Cond := u_ws RJ7 TJ7 0
theorem nmJ7 : ∀ a, a < 0 → ∀ b, b < 0 → a ≠ b → (TJ7 a).2.1 ≠ (TJ7 b).2.1 := by decide +kernel
theorem tyJ7_ok : ∀ k, k < 0 → parseFieldDescriptor (TJ7 k).2.2.1 = some (tyJ7 k) := by decide +kernel
abbrev cJ7_fill_53178 : ByteArray := prog_15_method_103_code
def yJ7_fill_53178 : MethodName := ⟨RJ7, "fill", "([II)V"⟩
def RL : String := "TeethForCoinsLaw"
abbrev cL_law : ByteArray := code
def yL_law : MethodName := ⟨RL, "law", "([I)Z"⟩
abbrev vwCl : List vw_C := [(RX0, TX0, 2), (RX1, TX1, 3), (RX2, TX2, 4), (RX3, TX3, 2), (RX4, TX4, 4), (RX5, TX5, 4), (RX6, TX6, 2), (RX7, TX7, 2), (RX8, TX8, 12), (RX9, TX9, 48)]
end
section
/-! ===== the small logic: values, memory, the world's fixed shape ===== -/
abbrev AV : Type := Int ⊕ (Int ⊕ Nat)
abbrev vi (z : Int) : AV := .inl z
abbrev vl (z : Int) : AV := .inr (.inl z)
abbrev vr (o : Nat) : AV := .inr (.inr o)
abbrev Mem : Type := Nat → Nat → Int
abbrev Scr : Type := Nat × (Nat → Int)
abbrev inI (z : Int) : Prop := -2147483648 ≤ z ∧ z ≤ 2147483647
abbrev inL (z : Int) : Prop := -9223372036854775808 ≤ z ∧ z ≤ 9223372036854775807
abbrev tyS : FieldType := .object "TeethForCoins$Slot"
abbrev tyT : FieldType := .object "TeethForCoins$Teeth"
abbrev Kd : Type := Nat ⊕ (FieldType × Nat)
/-- what kind of cell a number stands for: an object of a class (its place in vwCl), or an array -/
def kdT (o : Nat) : Option Kd := match o with
  | 0 => some (.inl 8)
  | 1 => some (.inl 7)
  | 2 => some (.inr (.byte, 72))
  | 3 => some (.inl 1)
  | 4 => some (.inr (.int, 4))
  | 5 => some (.inr (.int, 4))
  | 10 => some (.inl 3)
  | 11 => some (.inr (.int, 16))
  | 12 => some (.inr (.int, 16))
  | 13 => some (.inl 3)
  | 14 => some (.inr (.int, 16))
  | 15 => some (.inr (.int, 16))
  | 16 => some (.inl 3)
  | 17 => some (.inr (.int, 16))
  | 18 => some (.inr (.int, 16))
  | 20 => some (.inl 0)
  | 21 => some (.inr (tyT, 8))
  | 22 => some (.inl 0)
  | 23 => some (.inr (tyT, 8))
  | 24 => some (.inl 0)
  | 25 => some (.inr (tyT, 8))
  | 30 => some (.inr (tyS, 2))
  | 31 => some (.inl 5)
  | 32 => some (.inl 5)
  | 33 => some (.inl 2)
  | 34 => some (.inl 4)
  | 35 => some (.inr (.int, 1024))
  | 36 => some (.inr (.int, 1000))
  | 200 => some (.inl 9)
  | 301 => some (.inr (.int, 72))
  | 307 => some (.inr (.int, 10))
  | 308 => some (.inr (.boolean, 10))
  | 309 => some (.inr (.int, 10))
  | 310 => some (.inr (.int, 10))
  | 311 => some (.inr (.boolean, 10))
  | 312 => some (.inr (.int, 10))
  | 313 => some (.inr (.int, 10))
  | 314 => some (.inr (.int, 80))
  | 316 => some (.inr (.int, 4))
  | 317 => some (.inr (.int, 4))
  | 322 => some (.inr (.int, 10))
  | 323 => some (.inr (.boolean, 10))
  | 324 => some (.inr (.int, 10))
  | 325 => some (.inr (.int, 10))
  | 326 => some (.inr (.boolean, 10))
  | 327 => some (.inr (.int, 4))
  | 328 => some (.inr (.int, 4))
  | 329 => some (.inr (.int, 968))
  | 331 => some (.inr (.int, 16))
  | 332 => some (.inr (.int, 16))
  | 333 => some (.inr (.int, 242))
  | 334 => some (.inr (.int, 60))
  | 335 => some (.inr (.int, 1936))
  | 336 => some (.inr (.int, 64))
  | 337 => some (.inr (.boolean, 2))
  | 338 => some (.inr (.int, 2))
  | 342 => some (.inr (.int, 4))
  | 343 => some (.inr (.int, 4))
  | 347 => some (.inr (.boolean, 1000))
  | _ => none
def kd (o : Nat) : Option Kd := if 100 ≤ o ∧ o < 154 then (if o % 2 = 0 then some (.inl 6) else some (.inr (.int, 150))) else kdT o
/-- the references, which never change once all is made -/
def rfT (o j : Nat) : Option Nat := match o, j with
  | 0, 0 => some 1
  | 0, 1 => some 100
  | 0, 2 => some 3
  | 0, 3 => some 20
  | 0, 4 => some 10
  | 0, 5 => some 30
  | 0, 8 => some 33
  | 0, 9 => some 34
  | 0, 10 => some 35
  | 0, 11 => some 36
  | 1, 0 => some 2
  | 3, 0 => some 4
  | 3, 1 => some 5
  | 10, 0 => some 11
  | 10, 1 => some 12
  | 13, 0 => some 14
  | 13, 1 => some 15
  | 16, 0 => some 17
  | 16, 1 => some 18
  | 20, 0 => some 21
  | 22, 0 => some 23
  | 24, 0 => some 25
  | 21, i => if i < 8 then some (102 + 2 * i) else none
  | 23, i => if i < 8 then some (120 + 2 * i) else none
  | 25, i => if i < 8 then some (138 + 2 * i) else none
  | 30, 0 => some 31
  | 30, 1 => some 32
  | 31, 0 => some 118
  | 31, 1 => some 22
  | 31, 2 => some 13
  | 32, 0 => some 136
  | 32, 1 => some 24
  | 32, 2 => some 16
  | 200, i => some (300 + i)
  | _, _ => none
def rfs (o j : Nat) : Option Nat := if 100 ≤ o ∧ o < 154 then (if o % 2 = 0 ∧ j = 0 then some (o + 1) else none) else rfT o j
def nFd (ci : Nat) : Nat := match vwCl[ci]? with
  | some q => q.2.2
  | none => 0
/-- the types of a class's fields -/
def ftC (ci : Nat) : Nat → FieldType := match ci with
  | 0 => tyX0
  | 1 => tyX1
  | 2 => tyX2
  | 3 => tyX3
  | 4 => tyX4
  | 5 => tyX5
  | 6 => tyX6
  | 7 => tyX7
  | 8 => tyX8
  | _ => tyX9
/-- the type of a slot -/
def sty (o j : Nat) : FieldType := match kd o with
  | some (.inl ci) => ftC ci j
  | some (.inr (ty, _)) => ty
  | none => .int
def inT (ty : FieldType) (z : Int) : Prop := match ty with
  | .long => inL z
  | .boolean => 0 ≤ z ∧ z ≤ 1
  | .byte => -128 ≤ z ∧ z ≤ 127
  | _ => inI z
def wfM (M : Mem) : Prop := ∀ o j, inT (sty o j) (M o j)
def wfV (v : AV) : Prop := match v with
  | .inl z => inI z
  | .inr (.inl z) => inL z
  | .inr (.inr _) => True
def wfS (st : List AV) : Prop := ∀ v ∈ st, wfV v
def wfL (loc : List (Nat × AV)) : Prop := ∀ q ∈ loc, wfV q.2
/-- a value as the machine has it -/
def cV (ad : Nat → Nat) (v : AV) : Value := match v with
  | .inl z => .int (Int32.ofInt z)
  | .inr (.inl z) => .long (Int64.ofInt z)
  | .inr (.inr o) => .ref (ad o)
def cL (ad : Nat → Nat) (loc : List (Nat × AV)) : List (Nat × Value) := loc.map (fun q => (q.1, cV ad q.2))
/-- a slot as the machine has it -/
def cS (ad : Nat → Nat) (ty : FieldType) (r : Option Nat) (z : Int) : Value := match ty with
  | .long => .long (Int64.ofInt z)
  | .object _ => va_rf (r.map ad)
  | .array _ => va_rf (r.map ad)
  | _ => .int (Int32.ofInt z)
def fdV (ad : Nat → Nat) (M : Mem) (o ci : Nat) : List Value := (List.range (nFd ci)).map (fun j => cS ad (ftC ci j) (rfs o j) (M o j))
def arP (ad : Nat → Nat) (M : Mem) (o : Nat) (ty : FieldType) : (Nat → Int32) ⊕ (Nat → Int64) ⊕ (Nat → UInt32) ⊕ (Nat → UInt64) ⊕ (Nat → Option Nat) := match ty with
  | .object _ => .inr (.inr (.inr (.inr (fun j => (rfs o j).map ad))))
  | _ => .inl (fun j => Int32.ofInt (M o j))
def ent (cA : FieldType → ClassId) (ad : Nat → Nat) (M : Mem) (o : Nat) : va_E := match kd o with
  | some (.inl ci) => .inr (ci, fdV ad M o ci)
  | some (.inr (ty, n)) => .inl (cA ty, n, arP ad M o ty)
  | none => .inr (0, [])
def CO : List Nat := (List.range 400).filter (fun o => (kd o).isSome)
def wsO (cA : FieldType → ClassId) (ad : Nat → Nat) (M : Mem) : va_W := CO.map (fun o => (ad o, ent cA ad M o))
def tysO (cA : FieldType → ClassId) : List (ClassId × FieldType) := [(cA .byte, .byte), (cA .int, .int), (cA .boolean, .boolean), (cA tyS, tyS), (cA tyT, tyT)]
def up2 (M : Mem) (o j : Nat) (z : Int) : Mem := fun o' j' => if o' = o ∧ j' = j then z else M o' j'
theorem up2_s (M : Mem) (o j : Nat) (z : Int) : up2 M o j z o j = z := by simp [up2]
theorem kd_lt {o : Nat} {k : Kd} (h : kd o = some k) : o < 400 := by
  rcases Nat.lt_or_ge o 400 with h1 | h1
  · exact h1
  · exfalso
    unfold kd at h
    rw [if_neg (by omega)] at h
    unfold kdT at h
    split at h <;> first | omega | cases h
theorem mem_CO {o : Nat} {k : Kd} (h : kd o = some k) : o ∈ CO := by
  unfold CO
  rw [List.mem_filter, List.mem_range]
  exact ⟨kd_lt h, by rw [h]; rfl⟩
theorem at_CO {o : Nat} {k : Kd} (h : kd o = some k) : ∃ i : Nat, CO[i]? = some o := List.getElem?_of_mem (mem_CO h)
theorem at_wsO {cA : FieldType → ClassId} {ad : Nat → Nat} {M : Mem} {o i : Nat} (h : CO[i]? = some o) : (wsO cA ad M)[i]? = some (ad o, ent cA ad M o) := by
  unfold wsO
  rw [List.getElem?_map, h]
  rfl
theorem nd_CO : va_nd CO = true := by decide +kernel
theorem ent_ne {cA : FieldType → ClassId} {ad : Nat → Nat} {M M' : Mem} {o : Nat} (h : ∀ j, M' o j = M o j) : ent cA ad M' o = ent cA ad M o := by
  have e : M' o = M o := funext h
  unfold ent fdV arP
  simp only [e]
/-- one cell's entry changed: the world of the changed memory -/
theorem set_wsO {cA : FieldType → ClassId} {ad : Nat → Nat} {M M' : Mem} {o i : Nat} (h : CO[i]? = some o) (hne : ∀ o', o' ≠ o → ∀ j, M' o' j = M o' j) : (wsO cA ad M).set i (ad o, ent cA ad M' o) = wsO cA ad M' := by
  apply List.ext_getElem?
  intro k
  have hl : i < CO.length := (List.getElem?_eq_some_iff.mp h).1
  have hl2 : i < (wsO cA ad M).length := by unfold wsO; rw [List.length_map]; exact hl
  by_cases hk : k = i
  · subst hk
    rw [List.getElem?_set_self hl2, at_wsO h]
  · rw [List.getElem?_set_ne (Ne.symm hk)]
    unfold wsO
    rw [List.getElem?_map, List.getElem?_map]
    cases hq : CO[k]? with
    | none => rfl
    | some o' =>
      have hne' : o' ≠ o := fun e => hk (va_nd_inj CO nd_CO k i o (by rw [hq, e]) h)
      simp only [Option.map_some]
      rw [ent_ne (M := M) (M' := M') (hne o' hne')]
theorem D_wsO {A : Nat → Prop} {cA : FieldType → ClassId} {ad : Nat → Nat} {M : Mem} (M' : Mem) (h : va_D A (wsO cA ad M)) : va_D A (wsO cA ad M') := by
  have key : ∀ (i : Nat) (q : Nat × va_E), (wsO cA ad M')[i]? = some q → ∃ q', (wsO cA ad M)[i]? = some q' ∧ q'.1 = q.1 := by
    intro i q hq
    unfold wsO at hq ⊢
    rw [List.getElem?_map] at hq
    rw [List.getElem?_map]
    cases ho : CO[i]? with
    | none => rw [ho] at hq; cases hq
    | some o =>
      rw [ho] at hq
      cases hq
      exact ⟨_, rfl, rfl⟩
  refine ⟨fun i j p q hi hj he => ?_, fun k q hk => ?_⟩
  · obtain ⟨p', h1, h2⟩ := key i p hi
    obtain ⟨q', h3, h4⟩ := key j q hj
    exact h.1 i j p' q' h1 h3 (by rw [h2, h4, he])
  · obtain ⟨q', h1, h2⟩ := key k q hk
    rw [← h2]
    exact h.2 k q' h1
theorem A_wsO {cA : FieldType → ClassId} {ad : Nat → Nat} {M : Mem} (M' : Mem) {sz : Nat} : ∀ q, va_A (wsO cA ad M) sz q → va_A (wsO cA ad M') sz q := by
  intro q h
  rcases h with ⟨k, e, h⟩ | h
  · unfold wsO at h
    rw [List.getElem?_map] at h
    cases ho : CO[k]? with
    | none => rw [ho] at h; cases h
    | some o =>
      rw [ho] at h
      cases h
      exact Or.inl ⟨k, _, at_wsO ho⟩
  · exact Or.inr h
end
section
/-! ===== the words of the tables that carry over a call ===== -/
def TB : List Cond := lw_tbl.filter goodWord
def isNest (w : Cond) : Bool := match w with
  | .fieldLinkNest .. => true
  | .methodLinkNest .. => true
  | _ => false
def NW (U : State) : Prop := ∀ w ∈ tables_1, isNest w = true → va_Nw w U
theorem NW.warm {s U : State} (hW : s.WarmedH U.vm) (h : NW s) : NW U := by
  intro w hw hn
  have h1 := h w hw hn
  cases w with
  | fieldLinkNest a i b n d hh => exact va_Nw.warmF hW h1
  | methodLinkNest a i y hh => exact va_Nw.warmM hW h1
  | _ => cases hn
theorem NW.same {u U : State} (hv : u.vm = U.vm) (h : NW u) : NW U := by
  intro w hw hn
  have h1 := h w hw hn
  cases w with
  | fieldLinkNest a i b n d hh => exact va_Nw.same rfl hv h1
  | methodLinkNest a i y hh => exact va_Nw.same rfl hv h1
  | _ => cases hn
theorem tb_of {w : Cond} (h : w ∈ lw_tbl) (g : goodWord w = true) : w ∈ TB := List.mem_filter.mpr ⟨h, g⟩
theorem tb_good : GoodIn TB TB := fun w h => ⟨h, good_of_word (List.mem_filter.mp h).2⟩
theorem tb_p {w : Cond} (i : Nat) (h : (k2_sels lw_privs)[i]? = some w) (g : goodWord w = true) : w ∈ TB := tb_of (List.mem_append_left _ (List.mem_of_getElem? h)) g
theorem tl_1 {w : Cond} (i : Nat) (h : tables_1_1[i]? = some w) : w ∈ tables_1 := List.mem_append_left _ (List.mem_of_getElem? h)
theorem tl_2 {w : Cond} (i : Nat) (h : tables_1_2[i]? = some w) : w ∈ tables_1 := List.mem_append_right _ (List.mem_append_left _ (List.mem_of_getElem? h))
theorem tl_3 {w : Cond} (i : Nat) (h : tables_1_3[i]? = some w) : w ∈ tables_1 := List.mem_append_right _ (List.mem_append_right _ (List.mem_append_left _ (List.mem_of_getElem? h)))
theorem tl_4 {w : Cond} (i : Nat) (h : tables_1_4[i]? = some w) : w ∈ tables_1 := List.mem_append_right _ (List.mem_append_right _ (List.mem_append_right _ (List.mem_append_left _ (List.mem_of_getElem? h))))
theorem tl_5 {w : Cond} (i : Nat) (h : tables_1_5[i]? = some w) : w ∈ tables_1 := List.mem_append_right _ (List.mem_append_right _ (List.mem_append_right _ (List.mem_append_right _ (List.mem_of_getElem? h))))
theorem tb_t {w : Cond} (h : w ∈ tables_1) (g : goodWord w = true) : w ∈ TB := tb_of (List.mem_append_right _ h) g
/-! ===== a method's run ===== -/
/-- name, bytes, locals, return type, frames and words below it -/
abbrev MR : Type := MethodName × ByteArray × Nat × Option FieldType × Nat × Nat
def rmO (m : MR) : Room := { frames := m.2.2.2.2.1, cells := 0, slots := 0, locals := m.2.2.2.2.2 }
def wsM (m : MR) : List Cond := Cond.code m.1 m.2.1 m.2.2.1 m.2.2.2.1 :: TB
def Hd (D : va_G) (cA : FieldType → ClassId) (ad : Nat → Nat) (A : Nat → Prop) (s : State) (M : Mem) (H : Heap) (locs : List Loc) : Prop :=
  va_P D vwCl (wsO cA ad M) H ∧ va_D A (wsO cA ad M) ∧ va_S A s.heap H locs
def Ctx (X : Scr) (m : MR) (p : Program) (R : Room) (s : State) (mid : MethodId) (args : Array Value) (c : Code) (cells slots : Nat) (D : va_G) (cA : FieldType → ClassId) (ad : Nat → Nat) (A : Nat → Prop) : Prop :=
  p.tables.exec = Jvm.exec ∧ c.code = m.2.1 ∧ c.maxLocals = m.2.2.1 ∧ s.vm.findClass m.1.cls = some mid.cls ∧ (∀ w ∈ TB, w.before args s = true) ∧ NW s ∧ va_K D vwCl (tysO cA) s ∧ (∀ q, s.heap.size ≤ q → A q) ∧ (m.2.2.2.2.1 ≤ R.frames ∧ m.2.2.2.2.2 ≤ R.locals) ∧ (cells ≤ R.cells ∧ slots ≤ R.slots) ∧
  (m.1 = yL_law → va_X (ad 999) X.1 (fun j => Int32.ofInt (X.2 j)) s s.heap ∧ ad 999 < s.heap.size ∧ ¬ A (ad 999))
def okR (ret : Option FieldType) (r : Option AV) : Prop := match ret, r with
  | none, none => True
  | some .int, some (.inl z) => inI z
  | some .boolean, some (.inl z) => 0 ≤ z ∧ z ≤ 1
  | some .long, some (.inr (.inl z)) => inL z
  | _, _ => False
def retOp (r : Option AV) : Instr := match r with
  | some (.inl _) => .ireturn
  | some (.inr (.inl _)) => .lreturn
  | _ => .return_
def FinR (m : MR) (P : Option AV → Mem → Prop) (p : Program) (l : Launch) (e : Env) (R : Room) (s : State) (mid : MethodId) (args : Array Value) (below : List Frame) (meth : Method) (c : Code) (cells slots : Nat) (D : va_G) (cA : FieldType → ClassId) (ad : Nat → Nat) (A : Nat → Prop) (Q : State → Prop) : Prop :=
  ∀ (r : Option AV) (M : Mem) (H : Heap) (locs : List Loc) (ls : Array Slot) (pc : Nat), P r M → wfM M → okR m.2.2.2.1 r → Hd D cA ad A s M H locs → decode m.2.1 pc = .ok (retOp r, 1) → W p l e R s mid args below meth c H locs cells slots Q (F0 mid pc ls ((r.map (cV ad)).toList))
def WS (nL : Nat) (p : Program) (l : Launch) (e : Env) (R : Room) (s : State) (mid : MethodId) (args : Array Value) (below : List Frame) (meth : Method) (c : Code) (cells slots : Nat) (D : va_G) (cA : FieldType → ClassId) (ad : Nat → Nat) (A : Nat → Prop) (Q : State → Prop) (pc : Nat) (loc : List (Nat × AV)) (st : List AV) (M : Mem) : Prop :=
  wfM M → wfL loc → wfS st → ∀ (ls : Array Slot) (H : Heap) (locs : List Loc), lv_has ls nL (cL ad loc) → Hd D cA ad A s M H locs → W p l e R s mid args below meth c H locs cells slots Q (F0 mid pc ls (st.map (cV ad)))
/-- from this place of the method, with these locals, this stack and this memory, it returns so that P -/
def Runs (X : Scr) (m : MR) (pc : Nat) (loc : List (Nat × AV)) (st : List AV) (M : Mem) (P : Option AV → Mem → Prop) : Prop :=
  ∀ (p : Program) (l : Launch) (e : Env) (R : Room) (s : State) (mid : MethodId) (args : Array Value) (below : List Frame) (meth : Method) (c : Code) (cells slots : Nat) (D : va_G) (cA : FieldType → ClassId) (ad : Nat → Nat) (A : Nat → Prop) (Q : State → Prop),
    Ctx X m p R s mid args c cells slots D cA ad A → FinR m P p l e R s mid args below meth c cells slots D cA ad A Q → WS m.2.2.1 p l e R s mid args below meth c cells slots D cA ad A Q pc loc st M
section RR
variable {X : Scr} {m : MR} {pc pc' : Nat} {loc loc' : List (Nat × AV)} {st st' : List AV} {M M' : Mem} {P : Option AV → Mem → Prop}
theorem Runs.lift (h : ∀ (p : Program) (l : Launch) (e : Env) (R : Room) (s : State) (mid : MethodId) (args : Array Value) (below : List Frame) (meth : Method) (c : Code) (cells slots : Nat) (D : va_G) (cA : FieldType → ClassId) (ad : Nat → Nat) (A : Nat → Prop) (Q : State → Prop), Ctx X m p R s mid args c cells slots D cA ad A → WS m.2.2.1 p l e R s mid args below meth c cells slots D cA ad A Q pc' loc' st' M' → WS m.2.2.1 p l e R s mid args below meth c cells slots D cA ad A Q pc loc st M) (k : Runs X m pc' loc' st' M' P) : Runs X m pc loc st M P :=
  fun p l e R s mid args below meth c cells slots D cA ad A Q C F => h p l e R s mid args below meth c cells slots D cA ad A Q C (k p l e R s mid args below meth c cells slots D cA ad A Q C F)
theorem wfS_c {v : AV} (hv : wfV v) (h : wfS st) : wfS (v :: st) := fun w hw => by
  rcases List.mem_cons.mp hw with rfl | h1
  · exact hv
  · exact h w h1
theorem wfS_h {v : AV} (h : wfS (v :: st)) : wfV v := h v List.mem_cons_self
theorem wfS_t {v : AV} (h : wfS (v :: st)) : wfS st := fun w hw => h w (List.mem_cons_of_mem _ hw)
theorem wfL_at {k i : Nat} {v : AV} (h : wfL loc) (hk : loc[k]? = some (i, v)) : wfV v := h (i, v) (List.mem_of_getElem? hk)
theorem cL_at {ad : Nat → Nat} {k i : Nat} {v : AV} (hk : loc[k]? = some (i, v)) : (cL ad loc)[k]? = some (i, cV ad v) := by
  unfold cL
  rw [List.getElem?_map, hk]
  rfl
/-- what is in range may be used -/
theorem Runs.wf (k : wfM M → wfL loc → wfS st → Runs X m pc loc st M P) : Runs X m pc loc st M P :=
  fun p l e R s mid args below meth c cells slots D cA ad A Q C F hM hL hS => k hM hL hS p l e R s mid args below meth c cells slots D cA ad A Q C F hM hL hS
/-- fewer locals, in another order -/
theorem Runs.pick (h : ∀ q ∈ loc', q ∈ loc) (k : Runs X m pc loc' st M P) : Runs X m pc loc st M P := by
  refine Runs.lift (fun p l e R s mid args below meth c cells slots D cA ad A Q C w => ?_) k
  intro hM hL hS ls H locs hl hd
  refine w hM (fun q hq => hL q (h q hq)) hS ls H locs ⟨hl.1, hl.2.1, fun q hq => ?_⟩ hd
  unfold cL at hq
  obtain ⟨q0, h0, rfl⟩ := List.mem_map.mp hq
  exact hl.2.2 _ (List.mem_map.mpr ⟨q0, h _ h0, rfl⟩)
theorem Runs.mono {P' : Option AV → Mem → Prop} (k : Runs X m pc loc st M P') (h : ∀ r M1, P' r M1 → P r M1) : Runs X m pc loc st M P :=
  fun p l e R s mid args below meth c cells slots D cA ad A Q C F => k p l e R s mid args below meth c cells slots D cA ad A Q C (fun r M1 H locs ls q hP => F r M1 H locs ls q (h r M1 hP))
-- ===== constants and loads
theorem Runs.iload_n {k : Fin 4} {j : Nat} {z : Int} (hd : decode m.2.1 pc = .ok (.iload_n k, 1)) (hl : loc[j]? = some ((k : Nat), vi z)) (kk : Runs X m (pc + 1) loc (vi z :: st) M P) : Runs X m pc loc st M P := by
  refine Runs.lift (fun p l e R s mid args below meth c cells slots D cA ad A Q C w => ?_) kk
  intro hM hL hS ls H locs hlv hH
  exact lv_iload_n C.1 C.2.1 hd rfl (lv_at hlv j (cL_at hl)) (w hM hL (wfS_c (wfL_at hL hl) hS) ls H locs hlv hH)
theorem Runs.iload {i j : Nat} {z : Int} (hd : decode m.2.1 pc = .ok (.iload i, 2)) (hl : loc[j]? = some (i, vi z)) (kk : Runs X m (pc + 2) loc (vi z :: st) M P) : Runs X m pc loc st M P := by
  refine Runs.lift (fun p l e R s mid args below meth c cells slots D cA ad A Q C w => ?_) kk
  intro hM hL hS ls H locs hlv hH
  exact lv_iload C.1 C.2.1 hd (lv_at hlv j (cL_at hl)) (w hM hL (wfS_c (wfL_at hL hl) hS) ls H locs hlv hH)
theorem Runs.lload_n {k : Fin 4} {j : Nat} {z : Int} (hd : decode m.2.1 pc = .ok (.lload_n k, 1)) (hl : loc[j]? = some ((k : Nat), vl z)) (kk : Runs X m (pc + 1) loc (vl z :: st) M P) : Runs X m pc loc st M P := by
  refine Runs.lift (fun p l e R s mid args below meth c cells slots D cA ad A Q C w => ?_) kk
  intro hM hL hS ls H locs hlv hH
  exact lv_lload_n C.1 C.2.1 hd rfl (lv_at hlv j (cL_at hl)) (w hM hL (wfS_c (wfL_at hL hl) hS) ls H locs hlv hH)
theorem Runs.lload {i j : Nat} {z : Int} (hd : decode m.2.1 pc = .ok (.lload i, 2)) (hl : loc[j]? = some (i, vl z)) (kk : Runs X m (pc + 2) loc (vl z :: st) M P) : Runs X m pc loc st M P := by
  refine Runs.lift (fun p l e R s mid args below meth c cells slots D cA ad A Q C w => ?_) kk
  intro hM hL hS ls H locs hlv hH
  exact lv_lload C.1 C.2.1 hd (lv_at hlv j (cL_at hl)) (w hM hL (wfS_c (wfL_at hL hl) hS) ls H locs hlv hH)
theorem Runs.aload_n {k : Fin 4} {j o : Nat} (hd : decode m.2.1 pc = .ok (.aload_n k, 1)) (hl : loc[j]? = some ((k : Nat), vr o)) (kk : Runs X m (pc + 1) loc (vr o :: st) M P) : Runs X m pc loc st M P := by
  refine Runs.lift (fun p l e R s mid args below meth c cells slots D cA ad A Q C w => ?_) kk
  intro hM hL hS ls H locs hlv hH
  exact lv_aload_n C.1 C.2.1 hd rfl (lv_at hlv j (cL_at hl)) (w hM hL (wfS_c trivial hS) ls H locs hlv hH)
theorem Runs.iconst {n : Int} (hd : decode m.2.1 pc = .ok (.iconst n, 1)) (hn : inI n) (kk : Runs X m (pc + 1) loc (vi n :: st) M P) : Runs X m pc loc st M P := by
  refine Runs.lift (fun p l e R s mid args below meth c cells slots D cA ad A Q C w => ?_) kk
  intro hM hL hS ls H locs hlv hH
  exact lv_iconst C.1 C.2.1 hd rfl (w hM hL (wfS_c hn hS) ls H locs hlv hH)
theorem Runs.bipush {n : Int} (hd : decode m.2.1 pc = .ok (.bipush n, 2)) (hn : (Int8.ofInt n).toInt32 = Int32.ofInt n) (hi : inI n) (kk : Runs X m (pc + 2) loc (vi n :: st) M P) : Runs X m pc loc st M P := by
  refine Runs.lift (fun p l e R s mid args below meth c cells slots D cA ad A Q C w => ?_) kk
  intro hM hL hS ls H locs hlv hH
  exact lv_bipush C.1 C.2.1 hd hn (w hM hL (wfS_c hi hS) ls H locs hlv hH)
theorem Runs.sipush {n : Int} (hd : decode m.2.1 pc = .ok (.sipush n, 3)) (hn : (Int16.ofInt n).toInt32 = Int32.ofInt n) (hi : inI n) (kk : Runs X m (pc + 3) loc (vi n :: st) M P) : Runs X m pc loc st M P := by
  refine Runs.lift (fun p l e R s mid args below meth c cells slots D cA ad A Q C w => ?_) kk
  intro hM hL hS ls H locs hlv hH
  exact lv_sipush C.1 C.2.1 hd hn (w hM hL (wfS_c hi hS) ls H locs hlv hH)
theorem Runs.lconst {n : Fin 2} {z : Int} (hd : decode m.2.1 pc = .ok (.lconst n, 1)) (hn : Int64.ofNat (n : Nat) = Int64.ofInt z) (hi : inL z) (kk : Runs X m (pc + 1) loc (vl z :: st) M P) : Runs X m pc loc st M P := by
  refine Runs.lift (fun p l e R s mid args below meth c cells slots D cA ad A Q C w => ?_) kk
  intro hM hL hS ls H locs hlv hH
  exact lv_lconst C.1 C.2.1 hd hn (w hM hL (wfS_c hi hS) ls H locs hlv hH)
theorem Runs.ldc2 {index : Nat} {v : Int64} {z : Int} (hd : decode m.2.1 pc = .ok (.ldc2_w index, 3)) (hw : Cond.constantLong m.1.cls index v ∈ TB) (hv : v = Int64.ofInt z) (hi : inL z) (kk : Runs X m (pc + 3) loc (vl z :: st) M P) : Runs X m pc loc st M P := by
  refine Runs.lift (fun p l e R s mid args below meth c cells slots D cA ad A Q C w => ?_) kk
  intro hM hL hS ls H locs hlv hH
  subst hv
  exact lv_ldc2 C.1 C.2.1 C.2.2.2.1 (C.2.2.2.2.1 _ hw) hd (w hM hL (wfS_c hi hS) ls H locs hlv hH)
theorem Runs.ldcw {index : Nat} {v : Int32} {z : Int} (hd : decode m.2.1 pc = .ok (.ldc_w index, 3)) (hw : Cond.constant m.1.cls index v ∈ TB) (hv : v = Int32.ofInt z) (hi : inI z) (kk : Runs X m (pc + 3) loc (vi z :: st) M P) : Runs X m pc loc st M P := by
  refine Runs.lift (fun p l e R s mid args below meth c cells slots D cA ad A Q C w => ?_) kk
  intro hM hL hS ls H locs hlv hH
  subst hv
  exact lv_ldcw C.1 C.2.1 C.2.2.2.1 (C.2.2.2.2.1 _ hw) hd (w hM hL (wfS_c hi hS) ls H locs hlv hH)
-- ===== stack
theorem cV_cat1 {ad : Nat → Nat} {v : AV} (h : ∀ z, v ≠ vl z) : (cV ad v).category = 1 := by
  rcases v with z | z | o
  · rfl
  · exact absurd rfl (h z)
  · rfl
theorem Runs.dup {v : AV} (hd : decode m.2.1 pc = .ok (.dup, 1)) (hv : ∀ z, v ≠ vl z) (kk : Runs X m (pc + 1) loc (v :: v :: st) M P) : Runs X m pc loc (v :: st) M P := by
  refine Runs.lift (fun p l e R s mid args below meth c cells slots D cA ad A Q C w => ?_) kk
  intro hM hL hS ls H locs hlv hH
  exact lv_dup C.1 C.2.1 hd (cV_cat1 hv) (w hM hL (wfS_c (wfS_h hS) hS) ls H locs hlv hH)
theorem Runs.dup2 {v u : AV} (hd : decode m.2.1 pc = .ok (.dup2, 1)) (hv : ∀ z, v ≠ vl z) (hu : ∀ z, u ≠ vl z) (kk : Runs X m (pc + 1) loc (v :: u :: v :: u :: st) M P) : Runs X m pc loc (v :: u :: st) M P := by
  refine Runs.lift (fun p l e R s mid args below meth c cells slots D cA ad A Q C w => ?_) kk
  intro hM hL hS ls H locs hlv hH
  exact lv_dup2_11 C.1 C.2.1 hd (cV_cat1 hv) (cV_cat1 hu) (w hM hL (wfS_c (wfS_h hS) (wfS_c (wfS_h (wfS_t hS)) hS)) ls H locs hlv hH)
theorem Runs.pop {v : AV} (hd : decode m.2.1 pc = .ok (.pop, 1)) (hv : ∀ z, v ≠ vl z) (kk : Runs X m (pc + 1) loc st M P) : Runs X m pc loc (v :: st) M P := by
  refine Runs.lift (fun p l e R s mid args below meth c cells slots D cA ad A Q C w => ?_) kk
  intro hM hL hS ls H locs hlv hH
  exact lv_pop C.1 C.2.1 hd (cV_cat1 hv) (w hM hL (wfS_t hS) ls H locs hlv hH)
end RR
end
section
/-! ===== arithmetic ===== -/
theorem i32_t {a : Int} (h : inI a) : (Int32.ofInt a).toInt = a := Int32.toInt_ofInt_of_le (by omega) (by omega)
theorem i64_t {a : Int} (h : inL a) : (Int64.ofInt a).toInt = a := Int64.toInt_ofInt_of_le (by omega) (by omega)
theorem i32_le {a b : Int} (ha : inI a) (hb : inI b) : Int32.ofInt a ≤ Int32.ofInt b ↔ a ≤ b := by rw [Int32.le_iff_toInt_le, i32_t ha, i32_t hb]
theorem i32_lt {a b : Int} (ha : inI a) (hb : inI b) : Int32.ofInt a < Int32.ofInt b ↔ a < b := by rw [Int32.lt_iff_toInt_lt, i32_t ha, i32_t hb]
theorem i32_eq {a b : Int} (ha : inI a) (hb : inI b) : Int32.ofInt a = Int32.ofInt b ↔ a = b := by rw [← Int32.toInt_inj, i32_t ha, i32_t hb]
theorem i64_le {a b : Int} (ha : inL a) (hb : inL b) : Int64.ofInt a ≤ Int64.ofInt b ↔ a ≤ b := by rw [Int64.le_iff_toInt_le, i64_t ha, i64_t hb]
theorem i64_lt {a b : Int} (ha : inL a) (hb : inL b) : Int64.ofInt a < Int64.ofInt b ↔ a < b := by rw [Int64.lt_iff_toInt_lt, i64_t ha, i64_t hb]
theorem i64_eq {a b : Int} (ha : inL a) (hb : inL b) : Int64.ofInt a = Int64.ofInt b ↔ a = b := by rw [← Int64.toInt_inj, i64_t ha, i64_t hb]
theorem i32_0 : Int32.ofInt 0 = 0 := rfl
theorem i64_0 : Int64.ofInt 0 = 0 := rfl
theorem i32_of (x : Int32) : Int32.ofInt x.toInt = x := Int32.ofInt_toInt x
theorem i32_in (x : Int32) : inI x.toInt := ⟨Int32.le_toInt x, by have := Int32.toInt_lt x; omega⟩
theorem i64_in (x : Int64) : inL x.toInt := ⟨Int64.le_toInt x, by have := Int64.toInt_lt x; omega⟩
/-- the operations on bits, as they are on 32 and 64 bits -/
def zand (a b : Int) : Int := (Int32.ofInt a &&& Int32.ofInt b).toInt
def zor (a b : Int) : Int := (Int32.ofInt a ||| Int32.ofInt b).toInt
def zxor (a b : Int) : Int := (Int32.ofInt a ^^^ Int32.ofInt b).toInt
def zshl (a b : Int) : Int := (Int32.ofInt a <<< (Int32.ofInt b &&& 31)).toInt
def zshr (a b : Int) : Int := (Int32.ofInt a >>> (Int32.ofInt b &&& 31)).toInt
def zushr (a b : Int) : Int := ((Int32.ofInt a).toUInt32 >>> ((Int32.ofInt b).toUInt32 &&& Int32.toUInt32 31)).toInt32.toInt
def qand (a b : Int) : Int := (Int64.ofInt a &&& Int64.ofInt b).toInt
def qor (a b : Int) : Int := (Int64.ofInt a ||| Int64.ofInt b).toInt
def qshl (a b : Int) : Int := (Int64.ofInt a <<< ((Int32.ofInt b).toInt64 &&& 63)).toInt
def qshr (a b : Int) : Int := (Int64.ofInt a >>> ((Int32.ofInt b).toInt64 &&& 63)).toInt
def qushr (a b : Int) : Int := ((Int64.ofInt a).toUInt64 >>> ((Int32.ofInt b).toInt64.toUInt64 &&& Int64.toUInt64 63)).toInt64.toInt
/-- 64 bits, wrapping -/
def wrapL (a : Int) : Int := (Int64.ofInt a).toInt
def l2i (a : Int) : Int := (Int32.ofInt a).toInt
def i2b (a : Int) : Int := (Int32.ofInt a).toInt8.toInt32.toInt
section RA
variable {X : Scr} {m : MR} {pc pc' : Nat} {loc loc' : List (Nat × AV)} {st st' : List AV} {M M' : Mem} {P : Option AV → Mem → Prop}
theorem Runs.iadd {a b : Int} (hd : decode m.2.1 pc = .ok (.iadd, 1)) (hr : inI (a + b)) (kk : Runs X m (pc + 1) loc (vi (a + b) :: st) M P) : Runs X m pc loc (vi b :: vi a :: st) M P := by
  refine Runs.lift (fun p l e R s mid args below meth c cells slots D cA ad A Q C w => ?_) kk
  intro hM hL hS ls H locs hlv hH
  have k := w hM hL (wfS_c hr (wfS_t (wfS_t hS))) ls H locs hlv hH
  refine lv_iadd C.1 C.2.1 hd ?_
  rw [← Int32.ofInt_add]; exact k
theorem Runs.isub {a b : Int} (hd : decode m.2.1 pc = .ok (.isub, 1)) (hr : inI (a - b)) (kk : Runs X m (pc + 1) loc (vi (a - b) :: st) M P) : Runs X m pc loc (vi b :: vi a :: st) M P := by
  refine Runs.lift (fun p l e R s mid args below meth c cells slots D cA ad A Q C w => ?_) kk
  intro hM hL hS ls H locs hlv hH
  have k := w hM hL (wfS_c hr (wfS_t (wfS_t hS))) ls H locs hlv hH
  refine lv_isub C.1 C.2.1 hd ?_
  rw [← Int32.ofInt_sub]; exact k
theorem Runs.imul {a b : Int} (hd : decode m.2.1 pc = .ok (.imul, 1)) (hr : inI (a * b)) (kk : Runs X m (pc + 1) loc (vi (a * b) :: st) M P) : Runs X m pc loc (vi b :: vi a :: st) M P := by
  refine Runs.lift (fun p l e R s mid args below meth c cells slots D cA ad A Q C w => ?_) kk
  intro hM hL hS ls H locs hlv hH
  have k := w hM hL (wfS_c hr (wfS_t (wfS_t hS))) ls H locs hlv hH
  refine lv_imul C.1 C.2.1 hd ?_
  rw [← Int32.ofInt_mul]; exact k
theorem Runs.ineg {a : Int} (hd : decode m.2.1 pc = .ok (.ineg, 1)) (hr : inI (-a)) (kk : Runs X m (pc + 1) loc (vi (-a) :: st) M P) : Runs X m pc loc (vi a :: st) M P := by
  refine Runs.lift (fun p l e R s mid args below meth c cells slots D cA ad A Q C w => ?_) kk
  intro hM hL hS ls H locs hlv hH
  have k := w hM hL (wfS_c hr (wfS_t hS)) ls H locs hlv hH
  refine lv_ineg C.1 C.2.1 hd ?_
  rw [← Int32.ofInt_neg]; exact k
theorem i32_div {a b : Int} (ha : 0 ≤ a) (ha2 : inI a) (hb : 0 < b) (hb2 : inI b) : Int32.ofInt a / Int32.ofInt b = Int32.ofInt (a / b) := by
  have h := Int32.ofInt_tdiv (a := a) (b := b) (by rw [show Int32.minValue.toInt = -2147483648 from rfl]; omega) (by rw [show Int32.maxValue.toInt = 2147483647 from rfl]; omega) (by rw [show Int32.minValue.toInt = -2147483648 from rfl]; omega) (by rw [show Int32.maxValue.toInt = 2147483647 from rfl]; omega)
  rw [← h, Int.tdiv_eq_ediv_of_nonneg ha]
theorem i64_div {a b : Int} (ha : 0 ≤ a) (ha2 : inL a) (hb : 0 < b) (hb2 : inL b) : Int64.ofInt a / Int64.ofInt b = Int64.ofInt (a / b) := by
  have h := Int64.ofInt_tdiv (a := a) (b := b) (by rw [show Int64.minValue.toInt = -9223372036854775808 from rfl]; omega) (by rw [show Int64.maxValue.toInt = 9223372036854775807 from rfl]; omega) (by rw [show Int64.minValue.toInt = -9223372036854775808 from rfl]; omega) (by rw [show Int64.maxValue.toInt = 9223372036854775807 from rfl]; omega)
  rw [← h, Int.tdiv_eq_ediv_of_nonneg ha]
theorem div_inI {a b : Int} (ha : 0 ≤ a) (ha2 : inI a) (hb : 0 < b) : inI (a / b) := ⟨by have := Int.ediv_nonneg ha (Int.le_of_lt hb); omega, by have := Int.ediv_le_self b ha; omega⟩
theorem div_inL {a b : Int} (ha : 0 ≤ a) (ha2 : inL a) (hb : 0 < b) : inL (a / b) := ⟨by have := Int.ediv_nonneg ha (Int.le_of_lt hb); omega, by have := Int.ediv_le_self b ha; omega⟩
theorem mod_inI {a b : Int} (hb2 : inI b) (hb : 0 < b) : inI (a % b) := ⟨by have := Int.emod_nonneg a (Int.ne_of_gt hb); omega, by have := Int.emod_lt_of_pos a hb; omega⟩
theorem mod_inL {a b : Int} (hb2 : inL b) (hb : 0 < b) : inL (a % b) := ⟨by have := Int.emod_nonneg a (Int.ne_of_gt hb); omega, by have := Int.emod_lt_of_pos a hb; omega⟩
theorem Runs.idiv {a b : Int} (hd : decode m.2.1 pc = .ok (.idiv, 1)) (ha : 0 ≤ a) (hb : 0 < b) (kk : Runs X m (pc + 1) loc (vi (a / b) :: st) M P) : Runs X m pc loc (vi b :: vi a :: st) M P := by
  refine Runs.lift (fun p l e R s mid args below meth c cells slots D cA ad A Q C w => ?_) kk
  intro hM hL hS ls H locs hlv hH
  have hbi : inI b := wfS_h hS
  have hai : inI a := wfS_h (wfS_t hS)
  have k := w hM hL (wfS_c (div_inI ha hai hb) (wfS_t (wfS_t hS))) ls H locs hlv hH
  refine lv_idiv C.1 C.2.1 hd (by rw [← i32_0, i32_eq hbi (by decide)]; omega) ?_
  rw [i32_div ha hai hb hbi]; exact k
theorem Runs.irem {a b : Int} (hd : decode m.2.1 pc = .ok (.irem, 1)) (ha : 0 ≤ a) (hb : 0 < b) (kk : Runs X m (pc + 1) loc (vi (a % b) :: st) M P) : Runs X m pc loc (vi b :: vi a :: st) M P := by
  refine Runs.lift (fun p l e R s mid args below meth c cells slots D cA ad A Q C w => ?_) kk
  intro hM hL hS ls H locs hlv hH
  have hbi : inI b := wfS_h hS
  have hai : inI a := wfS_h (wfS_t hS)
  have k := w hM hL (wfS_c (mod_inI hbi hb) (wfS_t (wfS_t hS))) ls H locs hlv hH
  refine lv_irem C.1 C.2.1 hd (by rw [← i32_0, i32_eq hbi (by decide)]; omega) ?_
  rw [i32_div ha hai hb hbi, ← Int32.ofInt_mul, ← Int32.ofInt_sub, show a - a / b * b = a % b by rw [Int.emod_def, Int.mul_comm]]; exact k
theorem Runs.ldiv {a b : Int} (hd : decode m.2.1 pc = .ok (.ldiv, 1)) (ha : 0 ≤ a) (hb : 0 < b) (kk : Runs X m (pc + 1) loc (vl (a / b) :: st) M P) : Runs X m pc loc (vl b :: vl a :: st) M P := by
  refine Runs.lift (fun p l e R s mid args below meth c cells slots D cA ad A Q C w => ?_) kk
  intro hM hL hS ls H locs hlv hH
  have hbi : inL b := wfS_h hS
  have hai : inL a := wfS_h (wfS_t hS)
  have k := w hM hL (wfS_c (div_inL ha hai hb) (wfS_t (wfS_t hS))) ls H locs hlv hH
  refine lv_ldiv C.1 C.2.1 hd (by rw [← i64_0, i64_eq hbi (by decide)]; omega) ?_
  rw [i64_div ha hai hb hbi]; exact k
theorem Runs.lrem {a b : Int} (hd : decode m.2.1 pc = .ok (.lrem, 1)) (ha : 0 ≤ a) (hb : 0 < b) (kk : Runs X m (pc + 1) loc (vl (a % b) :: st) M P) : Runs X m pc loc (vl b :: vl a :: st) M P := by
  refine Runs.lift (fun p l e R s mid args below meth c cells slots D cA ad A Q C w => ?_) kk
  intro hM hL hS ls H locs hlv hH
  have hbi : inL b := wfS_h hS
  have hai : inL a := wfS_h (wfS_t hS)
  have k := w hM hL (wfS_c (mod_inL hbi hb) (wfS_t (wfS_t hS))) ls H locs hlv hH
  refine lv_lrem C.1 C.2.1 hd (by rw [← i64_0, i64_eq hbi (by decide)]; omega) ?_
  rw [i64_div ha hai hb hbi, ← Int64.ofInt_mul, ← Int64.ofInt_sub, show a - a / b * b = a % b by rw [Int.emod_def, Int.mul_comm]]; exact k
theorem Runs.iand {a b : Int} (hd : decode m.2.1 pc = .ok (.iand, 1)) (kk : Runs X m (pc + 1) loc (vi (zand a b) :: st) M P) : Runs X m pc loc (vi b :: vi a :: st) M P := by
  refine Runs.lift (fun p l e R s mid args below meth c cells slots D cA ad A Q C w => ?_) kk
  intro hM hL hS ls H locs hlv hH
  have k := w hM hL (wfS_c (i32_in _) (wfS_t (wfS_t hS))) ls H locs hlv hH
  refine lv_iand C.1 C.2.1 hd ?_
  rw [← i32_of (Int32.ofInt a &&& Int32.ofInt b)]; exact k
theorem Runs.ior {a b : Int} (hd : decode m.2.1 pc = .ok (.ior, 1)) (kk : Runs X m (pc + 1) loc (vi (zor a b) :: st) M P) : Runs X m pc loc (vi b :: vi a :: st) M P := by
  refine Runs.lift (fun p l e R s mid args below meth c cells slots D cA ad A Q C w => ?_) kk
  intro hM hL hS ls H locs hlv hH
  have k := w hM hL (wfS_c (i32_in _) (wfS_t (wfS_t hS))) ls H locs hlv hH
  refine lv_ior C.1 C.2.1 hd ?_
  rw [← i32_of (Int32.ofInt a ||| Int32.ofInt b)]; exact k
theorem Runs.ixor {a b : Int} (hd : decode m.2.1 pc = .ok (.ixor, 1)) (kk : Runs X m (pc + 1) loc (vi (zxor a b) :: st) M P) : Runs X m pc loc (vi b :: vi a :: st) M P := by
  refine Runs.lift (fun p l e R s mid args below meth c cells slots D cA ad A Q C w => ?_) kk
  intro hM hL hS ls H locs hlv hH
  have k := w hM hL (wfS_c (i32_in _) (wfS_t (wfS_t hS))) ls H locs hlv hH
  refine lv_ixor C.1 C.2.1 hd ?_
  rw [← i32_of (Int32.ofInt a ^^^ Int32.ofInt b)]; exact k
theorem Runs.ishl {a b : Int} (hd : decode m.2.1 pc = .ok (.ishl, 1)) (kk : Runs X m (pc + 1) loc (vi (zshl a b) :: st) M P) : Runs X m pc loc (vi b :: vi a :: st) M P := by
  refine Runs.lift (fun p l e R s mid args below meth c cells slots D cA ad A Q C w => ?_) kk
  intro hM hL hS ls H locs hlv hH
  have k := w hM hL (wfS_c (i32_in _) (wfS_t (wfS_t hS))) ls H locs hlv hH
  refine lv_ishl C.1 C.2.1 hd ?_
  rw [← i32_of (Int32.ofInt a <<< (Int32.ofInt b &&& 31))]; exact k
theorem Runs.ishr {a b : Int} (hd : decode m.2.1 pc = .ok (.ishr, 1)) (kk : Runs X m (pc + 1) loc (vi (zshr a b) :: st) M P) : Runs X m pc loc (vi b :: vi a :: st) M P := by
  refine Runs.lift (fun p l e R s mid args below meth c cells slots D cA ad A Q C w => ?_) kk
  intro hM hL hS ls H locs hlv hH
  have k := w hM hL (wfS_c (i32_in _) (wfS_t (wfS_t hS))) ls H locs hlv hH
  refine lv_ishr C.1 C.2.1 hd ?_
  rw [← i32_of (Int32.ofInt a >>> (Int32.ofInt b &&& 31))]; exact k
theorem Runs.iushr {a b : Int} (hd : decode m.2.1 pc = .ok (.iushr, 1)) (kk : Runs X m (pc + 1) loc (vi (zushr a b) :: st) M P) : Runs X m pc loc (vi b :: vi a :: st) M P := by
  refine Runs.lift (fun p l e R s mid args below meth c cells slots D cA ad A Q C w => ?_) kk
  intro hM hL hS ls H locs hlv hH
  have k := w hM hL (wfS_c (i32_in _) (wfS_t (wfS_t hS))) ls H locs hlv hH
  refine lv_iushr C.1 C.2.1 hd rfl ?_
  rw [← i32_of (((Int32.ofInt a).toUInt32 >>> ((Int32.ofInt b).toUInt32 &&& Int32.toUInt32 31)).toInt32)]; exact k
-- ===== longs
theorem Runs.i2l {a : Int} (hd : decode m.2.1 pc = .ok (.i2l, 1)) (kk : Runs X m (pc + 1) loc (vl a :: st) M P) : Runs X m pc loc (vi a :: st) M P := by
  refine Runs.lift (fun p l e R s mid args below meth c cells slots D cA ad A Q C w => ?_) kk
  intro hM hL hS ls H locs hlv hH
  have ha : inI a := wfS_h hS
  exact lv_i2l C.1 C.2.1 hd (Int64.toInt_inj.mp (by rw [Int32.toInt_toInt64, i32_t ha, i64_t ⟨by omega, by omega⟩])) (w hM hL (wfS_c (show inL a from ⟨by omega, by omega⟩) (wfS_t hS)) ls H locs hlv hH)
theorem Runs.l2i {a : Int} (hd : decode m.2.1 pc = .ok (.l2i, 1)) (kk : Runs X m (pc + 1) loc (vi (l2i a) :: st) M P) : Runs X m pc loc (vl a :: st) M P := by
  refine Runs.lift (fun p l e R s mid args below meth c cells slots D cA ad A Q C w => ?_) kk
  intro hM hL hS ls H locs hlv hH
  exact lv_l2i C.1 C.2.1 hd (by rw [Int64.toInt32_ofInt, Jvm.Pilot.@@N@@.l2i, i32_of]) (w hM hL (wfS_c (i32_in _) (wfS_t hS)) ls H locs hlv hH)
theorem Runs.i2b {a : Int} (hd : decode m.2.1 pc = .ok (.i2b, 1)) (kk : Runs X m (pc + 1) loc (vi (i2b a) :: st) M P) : Runs X m pc loc (vi a :: st) M P := by
  refine Runs.lift (fun p l e R s mid args below meth c cells slots D cA ad A Q C w => ?_) kk
  intro hM hL hS ls H locs hlv hH
  exact lv_i2b C.1 C.2.1 hd (by rw [Jvm.Pilot.@@N@@.i2b, i32_of]) (w hM hL (wfS_c (i32_in _) (wfS_t hS)) ls H locs hlv hH)
theorem Runs.ladd {a b : Int} (hd : decode m.2.1 pc = .ok (.ladd, 1)) (hr : inL (a + b)) (kk : Runs X m (pc + 1) loc (vl (a + b) :: st) M P) : Runs X m pc loc (vl b :: vl a :: st) M P := by
  refine Runs.lift (fun p l e R s mid args below meth c cells slots D cA ad A Q C w => ?_) kk
  intro hM hL hS ls H locs hlv hH
  have k := w hM hL (wfS_c hr (wfS_t (wfS_t hS))) ls H locs hlv hH
  refine lv_ladd C.1 C.2.1 hd ?_
  rw [← Int64.ofInt_add]; exact k
theorem Runs.lmul {a b : Int} (hd : decode m.2.1 pc = .ok (.lmul, 1)) (hr : inL (a * b)) (kk : Runs X m (pc + 1) loc (vl (a * b) :: st) M P) : Runs X m pc loc (vl b :: vl a :: st) M P := by
  refine Runs.lift (fun p l e R s mid args below meth c cells slots D cA ad A Q C w => ?_) kk
  intro hM hL hS ls H locs hlv hH
  have k := w hM hL (wfS_c hr (wfS_t (wfS_t hS))) ls H locs hlv hH
  refine lv_lmul C.1 C.2.1 hd ?_
  rw [← Int64.ofInt_mul]; exact k
theorem Runs.laddW {a b : Int} (hd : decode m.2.1 pc = .ok (.ladd, 1)) (kk : Runs X m (pc + 1) loc (vl (wrapL (a + b)) :: st) M P) : Runs X m pc loc (vl b :: vl a :: st) M P := by
  refine Runs.lift (fun p l e R s mid args below meth c cells slots D cA ad A Q C w => ?_) kk
  intro hM hL hS ls H locs hlv hH
  have k := w hM hL (wfS_c (i64_in _) (wfS_t (wfS_t hS))) ls H locs hlv hH
  refine lv_ladd C.1 C.2.1 hd ?_
  rw [← Int64.ofInt_add, ← Int64.ofInt_toInt (Int64.ofInt (a + b))]; exact k
theorem Runs.lmulW {a b : Int} (hd : decode m.2.1 pc = .ok (.lmul, 1)) (kk : Runs X m (pc + 1) loc (vl (wrapL (a * b)) :: st) M P) : Runs X m pc loc (vl b :: vl a :: st) M P := by
  refine Runs.lift (fun p l e R s mid args below meth c cells slots D cA ad A Q C w => ?_) kk
  intro hM hL hS ls H locs hlv hH
  have k := w hM hL (wfS_c (i64_in _) (wfS_t (wfS_t hS))) ls H locs hlv hH
  refine lv_lmul C.1 C.2.1 hd ?_
  rw [← Int64.ofInt_mul, ← Int64.ofInt_toInt (Int64.ofInt (a * b))]; exact k
theorem Runs.land {a b : Int} (hd : decode m.2.1 pc = .ok (.land, 1)) (kk : Runs X m (pc + 1) loc (vl (qand a b) :: st) M P) : Runs X m pc loc (vl b :: vl a :: st) M P := by
  refine Runs.lift (fun p l e R s mid args below meth c cells slots D cA ad A Q C w => ?_) kk
  intro hM hL hS ls H locs hlv hH
  have k := w hM hL (wfS_c (i64_in _) (wfS_t (wfS_t hS))) ls H locs hlv hH
  refine lv_land C.1 C.2.1 hd ?_
  rw [← Int64.ofInt_toInt (Int64.ofInt a &&& Int64.ofInt b)]; exact k
theorem Runs.lor {a b : Int} (hd : decode m.2.1 pc = .ok (.lor, 1)) (kk : Runs X m (pc + 1) loc (vl (qor a b) :: st) M P) : Runs X m pc loc (vl b :: vl a :: st) M P := by
  refine Runs.lift (fun p l e R s mid args below meth c cells slots D cA ad A Q C w => ?_) kk
  intro hM hL hS ls H locs hlv hH
  have k := w hM hL (wfS_c (i64_in _) (wfS_t (wfS_t hS))) ls H locs hlv hH
  refine lv_lor C.1 C.2.1 hd ?_
  rw [← Int64.ofInt_toInt (Int64.ofInt a ||| Int64.ofInt b)]; exact k
theorem Runs.lshl {a b : Int} (hd : decode m.2.1 pc = .ok (.lshl, 1)) (kk : Runs X m (pc + 1) loc (vl (qshl a b) :: st) M P) : Runs X m pc loc (vi b :: vl a :: st) M P := by
  refine Runs.lift (fun p l e R s mid args below meth c cells slots D cA ad A Q C w => ?_) kk
  intro hM hL hS ls H locs hlv hH
  have k := w hM hL (wfS_c (i64_in _) (wfS_t (wfS_t hS))) ls H locs hlv hH
  refine lv_lshl C.1 C.2.1 hd rfl ?_
  rw [← Int64.ofInt_toInt (Int64.ofInt a <<< ((Int32.ofInt b).toInt64 &&& 63))]; exact k
theorem Runs.lshr {a b : Int} (hd : decode m.2.1 pc = .ok (.lshr, 1)) (kk : Runs X m (pc + 1) loc (vl (qshr a b) :: st) M P) : Runs X m pc loc (vi b :: vl a :: st) M P := by
  refine Runs.lift (fun p l e R s mid args below meth c cells slots D cA ad A Q C w => ?_) kk
  intro hM hL hS ls H locs hlv hH
  have k := w hM hL (wfS_c (i64_in _) (wfS_t (wfS_t hS))) ls H locs hlv hH
  refine lv_lshr C.1 C.2.1 hd rfl ?_
  rw [← Int64.ofInt_toInt (Int64.ofInt a >>> ((Int32.ofInt b).toInt64 &&& 63))]; exact k
theorem Runs.lushr {a b : Int} (hd : decode m.2.1 pc = .ok (.lushr, 1)) (kk : Runs X m (pc + 1) loc (vl (qushr a b) :: st) M P) : Runs X m pc loc (vi b :: vl a :: st) M P := by
  refine Runs.lift (fun p l e R s mid args below meth c cells slots D cA ad A Q C w => ?_) kk
  intro hM hL hS ls H locs hlv hH
  have k := w hM hL (wfS_c (i64_in _) (wfS_t (wfS_t hS))) ls H locs hlv hH
  refine lv_lushr C.1 C.2.1 hd rfl ?_
  rw [← Int64.ofInt_toInt (((Int64.ofInt a).toUInt64 >>> ((Int32.ofInt b).toInt64.toUInt64 &&& Int64.toUInt64 63)).toInt64)]; exact k
end RA
end
section
/-! ===== locals that are written, branches ===== -/
def cat2 (v : AV) : Bool := match v with
  | .inr (.inl _) => true
  | _ => false
def insL (i : Nat) (v : AV) : List (Nat × AV) → List (Nat × AV)
  | [] => [(i, v)]
  | q :: t => if i < q.1 then (i, v) :: q :: t else q :: insL i v t
/-- a local of one word written -/
def st1 (loc : List (Nat × AV)) (i : Nat) (v : AV) : List (Nat × AV) := insL i v (loc.filter (fun q => !(q.1 == i) && !(q.1 + 1 == i && cat2 q.2)))
/-- a local of two words written -/
def st2 (loc : List (Nat × AV)) (i : Nat) (v : AV) : List (Nat × AV) := insL i v (loc.filter (fun q => !(q.1 == i) && (!(q.1 == i + 1) && !(q.1 + 1 == i && cat2 q.2))))
theorem mem_insL {i : Nat} {v : AV} {q : Nat × AV} : ∀ {l : List (Nat × AV)}, q ∈ insL i v l → q = (i, v) ∨ q ∈ l
  | [], h => by simpa [insL] using h
  | a :: t, h => by
    unfold insL at h
    split at h
    · rcases List.mem_cons.mp h with h1 | h1
      · exact Or.inl h1
      · exact Or.inr h1
    · rcases List.mem_cons.mp h with h1 | h1
      · exact Or.inr (by rw [h1]; exact List.mem_cons_self)
      · rcases mem_insL h1 with h2 | h2
        · exact Or.inl h2
        · exact Or.inr (List.mem_cons_of_mem _ h2)
theorem cV_cat2 (ad : Nat → Nat) (v : AV) : ((cV ad v).category == 2) = cat2 v := by rcases v with z | z | o <;> rfl
theorem lv_mem {ad : Nat → Nat} {ls : Array Slot} {nL : Nat} {l : List (Nat × Value)} {loc : List (Nat × AV)} (h : lv_has ls nL l) (hs : ∀ q ∈ loc, (q.1, cV ad q.2) ∈ l) : lv_has ls nL (cL ad loc) := by
  refine ⟨h.1, h.2.1, fun q hq => ?_⟩
  unfold cL at hq
  obtain ⟨q0, h0, rfl⟩ := List.mem_map.mp hq
  exact h.2.2 _ (hs q0 h0)
theorem st1_sub {ad : Nat → Nat} {loc : List (Nat × AV)} {i : Nat} {v : AV} : ∀ q ∈ st1 loc i v, (q.1, cV ad q.2) ∈ (i, cV ad v) :: (cL ad loc).filter (fun q => !(q.1 == i) && !(q.1 + 1 == i && q.2.category == 2)) := by
  intro q hq
  rcases mem_insL hq with rfl | h
  · exact List.mem_cons_self
  · refine List.mem_cons_of_mem _ ?_
    obtain ⟨h1, h2⟩ := List.mem_filter.mp h
    refine List.mem_filter.mpr ⟨List.mem_map.mpr ⟨q, h1, rfl⟩, ?_⟩
    show (!(q.1 == i) && !(q.1 + 1 == i && (cV ad q.2).category == 2)) = true
    rw [cV_cat2]
    exact h2
theorem st2_sub {ad : Nat → Nat} {loc : List (Nat × AV)} {i : Nat} {v : AV} : ∀ q ∈ st2 loc i v, (q.1, cV ad q.2) ∈ (i, cV ad v) :: (cL ad loc).filter (fun q => !(q.1 == i) && (!(q.1 == i + 1) && !(q.1 + 1 == i && q.2.category == 2))) := by
  intro q hq
  rcases mem_insL hq with rfl | h
  · exact List.mem_cons_self
  · refine List.mem_cons_of_mem _ ?_
    obtain ⟨h1, h2⟩ := List.mem_filter.mp h
    refine List.mem_filter.mpr ⟨List.mem_map.mpr ⟨q, h1, rfl⟩, ?_⟩
    show (!(q.1 == i) && (!(q.1 == i + 1) && !(q.1 + 1 == i && (cV ad q.2).category == 2))) = true
    rw [cV_cat2]
    exact h2
theorem wfL_st1 {loc : List (Nat × AV)} {i : Nat} {v : AV} (h : wfL loc) (hv : wfV v) : wfL (st1 loc i v) := by
  intro q hq
  rcases mem_insL hq with rfl | h1
  · exact hv
  · exact h q (List.mem_filter.mp h1).1
theorem wfL_st2 {loc : List (Nat × AV)} {i : Nat} {v : AV} (h : wfL loc) (hv : wfV v) : wfL (st2 loc i v) := by
  intro q hq
  rcases mem_insL hq with rfl | h1
  · exact hv
  · exact h q (List.mem_filter.mp h1).1
section RF
variable {X : Scr} {m : MR} {pc pc' : Nat} {loc loc' : List (Nat × AV)} {st st' : List AV} {M M' : Mem} {P : Option AV → Mem → Prop}
theorem Runs.istore_n {k : Fin 4} {i : Nat} {z : Int} (hd : decode m.2.1 pc = .ok (.istore_n k, 1)) (hi : (k : Nat) = i) (hn : i < m.2.2.1) (hl : st1 loc i (vi z) = loc') (kk : Runs X m (pc + 1) loc' st M P) : Runs X m pc loc (vi z :: st) M P := by
  refine Runs.lift (fun p l e R s mid args below meth c cells slots D cA ad A Q C w => ?_) kk
  intro hM hL hS ls H locs hlv hH
  subst hl
  exact lv_istore_n C.1 C.2.1 hd hi hlv hn rfl (fun ls' h' => w hM (wfL_st1 hL (wfS_h hS)) (wfS_t hS) ls' H locs (lv_mem h' st1_sub) hH)
theorem Runs.istore {i : Nat} {z : Int} (hd : decode m.2.1 pc = .ok (.istore i, 2)) (hn : i < m.2.2.1) (hl : st1 loc i (vi z) = loc') (kk : Runs X m (pc + 2) loc' st M P) : Runs X m pc loc (vi z :: st) M P := by
  refine Runs.lift (fun p l e R s mid args below meth c cells slots D cA ad A Q C w => ?_) kk
  intro hM hL hS ls H locs hlv hH
  subst hl
  exact lv_istore C.1 C.2.1 hd hlv hn rfl (fun ls' h' => w hM (wfL_st1 hL (wfS_h hS)) (wfS_t hS) ls' H locs (lv_mem h' st1_sub) hH)
theorem Runs.lstore_n {k : Fin 4} {i : Nat} {z : Int} (hd : decode m.2.1 pc = .ok (.lstore_n k, 1)) (hi : (k : Nat) = i) (hn : i + 1 < m.2.2.1) (hl : st2 loc i (vl z) = loc') (kk : Runs X m (pc + 1) loc' st M P) : Runs X m pc loc (vl z :: st) M P := by
  refine Runs.lift (fun p l e R s mid args below meth c cells slots D cA ad A Q C w => ?_) kk
  intro hM hL hS ls H locs hlv hH
  subst hl
  exact lv_lstore_n C.1 C.2.1 hd hi hlv hn rfl (fun ls' h' => w hM (wfL_st2 hL (wfS_h hS)) (wfS_t hS) ls' H locs (lv_mem h' st2_sub) hH)
theorem Runs.lstore {i : Nat} {z : Int} (hd : decode m.2.1 pc = .ok (.lstore i, 2)) (hn : i + 1 < m.2.2.1) (hl : st2 loc i (vl z) = loc') (kk : Runs X m (pc + 2) loc' st M P) : Runs X m pc loc (vl z :: st) M P := by
  refine Runs.lift (fun p l e R s mid args below meth c cells slots D cA ad A Q C w => ?_) kk
  intro hM hL hS ls H locs hlv hH
  subst hl
  exact lv_lstore C.1 C.2.1 hd hlv hn rfl (fun ls' h' => w hM (wfL_st2 hL (wfS_h hS)) (wfS_t hS) ls' H locs (lv_mem h' st2_sub) hH)
theorem Runs.iinc {i k : Nat} {n z : Int} (hd : decode m.2.1 pc = .ok (.iinc i n, 3)) (hk : loc[k]? = some (i, vi z)) (hr : inI (z + n)) (hn : i < m.2.2.1) (hl : st1 loc i (vi (z + n)) = loc') (kk : Runs X m (pc + 3) loc' st M P) : Runs X m pc loc st M P := by
  refine Runs.lift (fun p l e R s mid args below meth c cells slots D cA ad A Q C w => ?_) kk
  intro hM hL hS ls H locs hlv hH
  subst hl
  exact lv_iinc (v := Int32.ofInt (z + n)) C.1 C.2.1 hd hlv (cL_at hk) (by rw [Int32.ofInt_add]) hn rfl (fun ls' h' => w hM (wfL_st1 hL (show inI (z + n) from hr)) hS ls' H locs (lv_mem h' st1_sub) hH)
-- ===== jumps
theorem Runs.goto {off : Int} {tgt : Nat} (hd : decode m.2.1 pc = .ok (.goto off, 3)) (ht : (pc : Int) + off = (tgt : Int)) (kk : Runs X m tgt loc st M P) : Runs X m pc loc st M P := by
  refine Runs.lift (fun p l e R s mid args below meth c cells slots D cA ad A Q C w => ?_) kk
  intro hM hL hS ls H locs hlv hH
  exact lv_goto C.1 C.2.1 hd ht (w hM hL hS ls H locs hlv hH)
theorem Runs.ifnull {o : Nat} {off : Int} (hd : decode m.2.1 pc = .ok (.ifnull off, 3)) (kk : Runs X m (pc + 3) loc st M P) : Runs X m pc loc (vr o :: st) M P := by
  refine Runs.lift (fun p l e R s mid args below meth c cells slots D cA ad A Q C w => ?_) kk
  intro hM hL hS ls H locs hlv hH
  exact lv_ifnull C.1 C.2.1 hd (w hM hL (wfS_t hS) ls H locs hlv hH)
theorem Runs.ifnonnull {o : Nat} {off : Int} {tgt : Nat} (hd : decode m.2.1 pc = .ok (.ifnonnull off, 3)) (ht : (pc : Int) + off = (tgt : Int)) (kk : Runs X m tgt loc st M P) : Runs X m pc loc (vr o :: st) M P := by
  refine Runs.lift (fun p l e R s mid args below meth c cells slots D cA ad A Q C w => ?_) kk
  intro hM hL hS ls H locs hlv hH
  exact lv_ifnonnull C.1 C.2.1 hd ht (w hM hL (wfS_t hS) ls H locs hlv hH)
/-- two ways on, of which one is taken -/
theorem Runs.two {c1 : Prop} {pa pb : Nat} {sa : List AV} (h : ∀ (p : Program) (l : Launch) (e : Env) (R : Room) (s : State) (mid : MethodId) (args : Array Value) (below : List Frame) (meth : Method) (c : Code) (cells slots : Nat) (D : va_G) (cA : FieldType → ClassId) (ad : Nat → Nat) (A : Nat → Prop) (Q : State → Prop), Ctx X m p R s mid args c cells slots D cA ad A → (c1 → WS m.2.2.1 p l e R s mid args below meth c cells slots D cA ad A Q pa loc sa M) → (¬ c1 → WS m.2.2.1 p l e R s mid args below meth c cells slots D cA ad A Q pb loc sa M) → WS m.2.2.1 p l e R s mid args below meth c cells slots D cA ad A Q pc loc st M) (ka : c1 → Runs X m pa loc sa M P) (kb : ¬ c1 → Runs X m pb loc sa M P) : Runs X m pc loc st M P :=
  fun p l e R s mid args below meth c cells slots D cA ad A Q C F => h p l e R s mid args below meth c cells slots D cA ad A Q C (fun q => ka q p l e R s mid args below meth c cells slots D cA ad A Q C F) (fun q => kb q p l e R s mid args below meth c cells slots D cA ad A Q C F)
theorem i32_e0 {a : Int} (ha : inI a) : Int32.ofInt a = 0 ↔ a = 0 := by rw [← i32_0, i32_eq ha (by decide)]
theorem i32_l0 {a : Int} (ha : inI a) : Int32.ofInt a < 0 ↔ a < 0 := by rw [← i32_0, i32_lt ha (by decide)]
theorem i32_g0 {a : Int} (ha : inI a) : 0 < Int32.ofInt a ↔ 0 < a := by rw [← i32_0, i32_lt (by decide) ha]
theorem i32_le0 {a : Int} (ha : inI a) : Int32.ofInt a ≤ 0 ↔ a ≤ 0 := by rw [← i32_0, i32_le ha (by decide)]
theorem i32_ge0 {a : Int} (ha : inI a) : 0 ≤ Int32.ofInt a ↔ 0 ≤ a := by rw [← i32_0, i32_le (by decide) ha]
theorem Runs.if_eq {a : Int} {off : Int} {tgt : Nat} (hd : decode m.2.1 pc = .ok (.ifCond .eq off, 3)) (ht : (pc : Int) + off = (tgt : Int)) (k1 : a = 0 → Runs X m tgt loc st M P) (k2 : a ≠ 0 → Runs X m (pc + 3) loc st M P) : Runs X m pc loc (vi a :: st) M P := by
  refine Runs.two (c1 := a = 0) (fun p l e R s mid args below meth c cells slots D cA ad A Q C w1 w2 => ?_) k1 k2
  intro hM hL hS ls H locs hlv hH
  have ha : inI a := wfS_h hS
  exact lv_if_eq C.1 C.2.1 hd ht (fun h => w1 ((i32_e0 ha).mp h) hM hL (wfS_t hS) ls H locs hlv hH) (fun h => w2 (fun q => h ((i32_e0 ha).mpr q)) hM hL (wfS_t hS) ls H locs hlv hH)
theorem Runs.if_ne {a : Int} {off : Int} {tgt : Nat} (hd : decode m.2.1 pc = .ok (.ifCond .ne off, 3)) (ht : (pc : Int) + off = (tgt : Int)) (k1 : a ≠ 0 → Runs X m tgt loc st M P) (k2 : a = 0 → Runs X m (pc + 3) loc st M P) : Runs X m pc loc (vi a :: st) M P := by
  refine Runs.two (c1 := a ≠ 0) (fun p l e R s mid args below meth c cells slots D cA ad A Q C w1 w2 => ?_) k1 (fun h => k2 (Classical.not_not.mp h))
  intro hM hL hS ls H locs hlv hH
  have ha : inI a := wfS_h hS
  exact lv_if_ne C.1 C.2.1 hd ht (fun h => w1 (fun q => h ((i32_e0 ha).mpr q)) hM hL (wfS_t hS) ls H locs hlv hH) (fun h => w2 (fun q => q ((i32_e0 ha).mp h)) hM hL (wfS_t hS) ls H locs hlv hH)
theorem Runs.if_lt {a : Int} {off : Int} {tgt : Nat} (hd : decode m.2.1 pc = .ok (.ifCond .lt off, 3)) (ht : (pc : Int) + off = (tgt : Int)) (k1 : a < 0 → Runs X m tgt loc st M P) (k2 : 0 ≤ a → Runs X m (pc + 3) loc st M P) : Runs X m pc loc (vi a :: st) M P := by
  refine Runs.two (c1 := a < 0) (fun p l e R s mid args below meth c cells slots D cA ad A Q C w1 w2 => ?_) k1 (fun h => k2 (by omega))
  intro hM hL hS ls H locs hlv hH
  have ha : inI a := wfS_h hS
  exact lv_if_lt C.1 C.2.1 hd ht (fun h => w1 ((i32_l0 ha).mp h) hM hL (wfS_t hS) ls H locs hlv hH) (fun h => w2 (fun q => h ((i32_l0 ha).mpr q)) hM hL (wfS_t hS) ls H locs hlv hH)
theorem Runs.if_ge {a : Int} {off : Int} {tgt : Nat} (hd : decode m.2.1 pc = .ok (.ifCond .ge off, 3)) (ht : (pc : Int) + off = (tgt : Int)) (k1 : 0 ≤ a → Runs X m tgt loc st M P) (k2 : a < 0 → Runs X m (pc + 3) loc st M P) : Runs X m pc loc (vi a :: st) M P := by
  refine Runs.two (c1 := 0 ≤ a) (fun p l e R s mid args below meth c cells slots D cA ad A Q C w1 w2 => ?_) k1 (fun h => k2 (by omega))
  intro hM hL hS ls H locs hlv hH
  have ha : inI a := wfS_h hS
  exact lv_if_ge C.1 C.2.1 hd ht (fun h => w1 ((i32_ge0 ha).mp h) hM hL (wfS_t hS) ls H locs hlv hH) (fun h => w2 (fun q => h ((i32_ge0 ha).mpr q)) hM hL (wfS_t hS) ls H locs hlv hH)
theorem Runs.if_gt {a : Int} {off : Int} {tgt : Nat} (hd : decode m.2.1 pc = .ok (.ifCond .gt off, 3)) (ht : (pc : Int) + off = (tgt : Int)) (k1 : 0 < a → Runs X m tgt loc st M P) (k2 : a ≤ 0 → Runs X m (pc + 3) loc st M P) : Runs X m pc loc (vi a :: st) M P := by
  refine Runs.two (c1 := 0 < a) (fun p l e R s mid args below meth c cells slots D cA ad A Q C w1 w2 => ?_) k1 (fun h => k2 (by omega))
  intro hM hL hS ls H locs hlv hH
  have ha : inI a := wfS_h hS
  exact lv_if_gt C.1 C.2.1 hd ht (fun h => w1 ((i32_g0 ha).mp h) hM hL (wfS_t hS) ls H locs hlv hH) (fun h => w2 (fun q => h ((i32_g0 ha).mpr q)) hM hL (wfS_t hS) ls H locs hlv hH)
theorem Runs.if_le {a : Int} {off : Int} {tgt : Nat} (hd : decode m.2.1 pc = .ok (.ifCond .le off, 3)) (ht : (pc : Int) + off = (tgt : Int)) (k1 : a ≤ 0 → Runs X m tgt loc st M P) (k2 : 0 < a → Runs X m (pc + 3) loc st M P) : Runs X m pc loc (vi a :: st) M P := by
  refine Runs.two (c1 := a ≤ 0) (fun p l e R s mid args below meth c cells slots D cA ad A Q C w1 w2 => ?_) k1 (fun h => k2 (by omega))
  intro hM hL hS ls H locs hlv hH
  have ha : inI a := wfS_h hS
  exact lv_if_le C.1 C.2.1 hd ht (fun h => w1 ((i32_le0 ha).mp h) hM hL (wfS_t hS) ls H locs hlv hH) (fun h => w2 (fun q => h ((i32_le0 ha).mpr q)) hM hL (wfS_t hS) ls H locs hlv hH)
theorem Runs.icmp_eq {a b : Int} {off : Int} {tgt : Nat} (hd : decode m.2.1 pc = .ok (.if_icmp .eq off, 3)) (ht : (pc : Int) + off = (tgt : Int)) (k1 : a = b → Runs X m tgt loc st M P) (k2 : a ≠ b → Runs X m (pc + 3) loc st M P) : Runs X m pc loc (vi b :: vi a :: st) M P := by
  refine Runs.two (c1 := a = b) (fun p l e R s mid args below meth c cells slots D cA ad A Q C w1 w2 => ?_) k1 k2
  intro hM hL hS ls H locs hlv hH
  have hb : inI b := wfS_h hS
  have ha : inI a := wfS_h (wfS_t hS)
  exact lv_icmp_eq C.1 C.2.1 hd ht (fun h => w1 ((i32_eq ha hb).mp h) hM hL (wfS_t (wfS_t hS)) ls H locs hlv hH) (fun h => w2 (fun q => h ((i32_eq ha hb).mpr q)) hM hL (wfS_t (wfS_t hS)) ls H locs hlv hH)
theorem Runs.icmp_ne {a b : Int} {off : Int} {tgt : Nat} (hd : decode m.2.1 pc = .ok (.if_icmp .ne off, 3)) (ht : (pc : Int) + off = (tgt : Int)) (k1 : a ≠ b → Runs X m tgt loc st M P) (k2 : a = b → Runs X m (pc + 3) loc st M P) : Runs X m pc loc (vi b :: vi a :: st) M P := by
  refine Runs.two (c1 := a ≠ b) (fun p l e R s mid args below meth c cells slots D cA ad A Q C w1 w2 => ?_) k1 (fun h => k2 (Classical.not_not.mp h))
  intro hM hL hS ls H locs hlv hH
  have hb : inI b := wfS_h hS
  have ha : inI a := wfS_h (wfS_t hS)
  exact lv_icmp_ne C.1 C.2.1 hd ht (fun h => w1 (fun q => h ((i32_eq ha hb).mpr q)) hM hL (wfS_t (wfS_t hS)) ls H locs hlv hH) (fun h => w2 (fun q => q ((i32_eq ha hb).mp h)) hM hL (wfS_t (wfS_t hS)) ls H locs hlv hH)
theorem Runs.icmp_lt {a b : Int} {off : Int} {tgt : Nat} (hd : decode m.2.1 pc = .ok (.if_icmp .lt off, 3)) (ht : (pc : Int) + off = (tgt : Int)) (k1 : a < b → Runs X m tgt loc st M P) (k2 : b ≤ a → Runs X m (pc + 3) loc st M P) : Runs X m pc loc (vi b :: vi a :: st) M P := by
  refine Runs.two (c1 := a < b) (fun p l e R s mid args below meth c cells slots D cA ad A Q C w1 w2 => ?_) k1 (fun h => k2 (by omega))
  intro hM hL hS ls H locs hlv hH
  have hb : inI b := wfS_h hS
  have ha : inI a := wfS_h (wfS_t hS)
  exact lv_icmp_lt C.1 C.2.1 hd ht (fun h => w1 ((i32_lt ha hb).mp h) hM hL (wfS_t (wfS_t hS)) ls H locs hlv hH) (fun h => w2 (fun q => h ((i32_lt ha hb).mpr q)) hM hL (wfS_t (wfS_t hS)) ls H locs hlv hH)
theorem Runs.icmp_ge {a b : Int} {off : Int} {tgt : Nat} (hd : decode m.2.1 pc = .ok (.if_icmp .ge off, 3)) (ht : (pc : Int) + off = (tgt : Int)) (k1 : b ≤ a → Runs X m tgt loc st M P) (k2 : a < b → Runs X m (pc + 3) loc st M P) : Runs X m pc loc (vi b :: vi a :: st) M P := by
  refine Runs.two (c1 := b ≤ a) (fun p l e R s mid args below meth c cells slots D cA ad A Q C w1 w2 => ?_) k1 (fun h => k2 (by omega))
  intro hM hL hS ls H locs hlv hH
  have hb : inI b := wfS_h hS
  have ha : inI a := wfS_h (wfS_t hS)
  exact lv_icmp_ge C.1 C.2.1 hd ht (fun h => w1 ((i32_le hb ha).mp h) hM hL (wfS_t (wfS_t hS)) ls H locs hlv hH) (fun h => w2 (fun q => h ((i32_le hb ha).mpr q)) hM hL (wfS_t (wfS_t hS)) ls H locs hlv hH)
theorem Runs.icmp_gt {a b : Int} {off : Int} {tgt : Nat} (hd : decode m.2.1 pc = .ok (.if_icmp .gt off, 3)) (ht : (pc : Int) + off = (tgt : Int)) (k1 : b < a → Runs X m tgt loc st M P) (k2 : a ≤ b → Runs X m (pc + 3) loc st M P) : Runs X m pc loc (vi b :: vi a :: st) M P := by
  refine Runs.two (c1 := b < a) (fun p l e R s mid args below meth c cells slots D cA ad A Q C w1 w2 => ?_) k1 (fun h => k2 (by omega))
  intro hM hL hS ls H locs hlv hH
  have hb : inI b := wfS_h hS
  have ha : inI a := wfS_h (wfS_t hS)
  exact lv_icmp_gt C.1 C.2.1 hd ht (fun h => w1 ((i32_lt hb ha).mp h) hM hL (wfS_t (wfS_t hS)) ls H locs hlv hH) (fun h => w2 (fun q => h ((i32_lt hb ha).mpr q)) hM hL (wfS_t (wfS_t hS)) ls H locs hlv hH)
theorem Runs.icmp_le {a b : Int} {off : Int} {tgt : Nat} (hd : decode m.2.1 pc = .ok (.if_icmp .le off, 3)) (ht : (pc : Int) + off = (tgt : Int)) (k1 : a ≤ b → Runs X m tgt loc st M P) (k2 : b < a → Runs X m (pc + 3) loc st M P) : Runs X m pc loc (vi b :: vi a :: st) M P := by
  refine Runs.two (c1 := a ≤ b) (fun p l e R s mid args below meth c cells slots D cA ad A Q C w1 w2 => ?_) k1 (fun h => k2 (by omega))
  intro hM hL hS ls H locs hlv hH
  have hb : inI b := wfS_h hS
  have ha : inI a := wfS_h (wfS_t hS)
  exact lv_icmp_le C.1 C.2.1 hd ht (fun h => w1 ((i32_le ha hb).mp h) hM hL (wfS_t (wfS_t hS)) ls H locs hlv hH) (fun h => w2 (fun q => h ((i32_le ha hb).mpr q)) hM hL (wfS_t (wfS_t hS)) ls H locs hlv hH)
-- ===== longs compared, and the branch on it
def zcmp (a b : Int) : Int := if b < a then 1 else if a = b then 0 else -1
theorem Runs.lcmp {a b : Int} (hd : decode m.2.1 pc = .ok (.lcmp, 1)) (kk : Runs X m (pc + 1) loc (vi (zcmp a b) :: st) M P) : Runs X m pc loc (vl b :: vl a :: st) M P := by
  refine Runs.lift (fun p l e R s mid args below meth c cells slots D cA ad A Q C w => ?_) kk
  intro hM hL hS ls H locs hlv hH
  have hb : inL b := wfS_h hS
  have ha : inL a := wfS_h (wfS_t hS)
  have hz : inI (zcmp a b) := by unfold zcmp; split <;> (try split) <;> decide
  have k := w hM hL (wfS_c (show wfV (vi (zcmp a b)) from hz) (wfS_t (wfS_t hS))) ls H locs hlv hH
  refine W.lcmp C.1 C.2.1 hd ?_
  have e : lg_cmp (Int64.ofInt a) (Int64.ofInt b) = Int32.ofInt (zcmp a b) := by
    unfold lg_cmp zcmp
    simp only [gt_iff_lt, i64_lt hb ha, i64_eq ha hb]
    split
    · rfl
    · split <;> rfl
  rw [e]; exact k
theorem zcmp_lt {a b : Int} : zcmp a b < 0 ↔ a < b := by unfold zcmp; split <;> (try split) <;> omega
theorem zcmp_le {a b : Int} : zcmp a b ≤ 0 ↔ a ≤ b := by unfold zcmp; split <;> (try split) <;> omega
theorem zcmp_gt {a b : Int} : 0 < zcmp a b ↔ b < a := by unfold zcmp; split <;> (try split) <;> omega
theorem zcmp_ge {a b : Int} : 0 ≤ zcmp a b ↔ b ≤ a := by unfold zcmp; split <;> (try split) <;> omega
theorem zcmp_eq {a b : Int} : zcmp a b = 0 ↔ a = b := by unfold zcmp; split <;> (try split) <;> omega
theorem Runs.lcmp_lt {a b : Int} {off : Int} {tgt : Nat} (hd : decode m.2.1 pc = .ok (.lcmp, 1)) (hd2 : decode m.2.1 (pc + 1) = .ok (.ifCond .lt off, 3)) (ht : ((pc + 1 : Nat) : Int) + off = (tgt : Int)) (k1 : a < b → Runs X m tgt loc st M P) (k2 : b ≤ a → Runs X m (pc + 4) loc st M P) : Runs X m pc loc (vl b :: vl a :: st) M P :=
  Runs.lcmp hd (Runs.if_lt hd2 ht (fun h => k1 (zcmp_lt.mp h)) (fun h => k2 (zcmp_ge.mp h)))
theorem Runs.lcmp_ge {a b : Int} {off : Int} {tgt : Nat} (hd : decode m.2.1 pc = .ok (.lcmp, 1)) (hd2 : decode m.2.1 (pc + 1) = .ok (.ifCond .ge off, 3)) (ht : ((pc + 1 : Nat) : Int) + off = (tgt : Int)) (k1 : b ≤ a → Runs X m tgt loc st M P) (k2 : a < b → Runs X m (pc + 4) loc st M P) : Runs X m pc loc (vl b :: vl a :: st) M P :=
  Runs.lcmp hd (Runs.if_ge hd2 ht (fun h => k1 (zcmp_ge.mp h)) (fun h => k2 (zcmp_lt.mp h)))
theorem Runs.lcmp_gt {a b : Int} {off : Int} {tgt : Nat} (hd : decode m.2.1 pc = .ok (.lcmp, 1)) (hd2 : decode m.2.1 (pc + 1) = .ok (.ifCond .gt off, 3)) (ht : ((pc + 1 : Nat) : Int) + off = (tgt : Int)) (k1 : b < a → Runs X m tgt loc st M P) (k2 : a ≤ b → Runs X m (pc + 4) loc st M P) : Runs X m pc loc (vl b :: vl a :: st) M P :=
  Runs.lcmp hd (Runs.if_gt hd2 ht (fun h => k1 (zcmp_gt.mp h)) (fun h => k2 (zcmp_le.mp h)))
theorem Runs.lcmp_le {a b : Int} {off : Int} {tgt : Nat} (hd : decode m.2.1 pc = .ok (.lcmp, 1)) (hd2 : decode m.2.1 (pc + 1) = .ok (.ifCond .le off, 3)) (ht : ((pc + 1 : Nat) : Int) + off = (tgt : Int)) (k1 : a ≤ b → Runs X m tgt loc st M P) (k2 : b < a → Runs X m (pc + 4) loc st M P) : Runs X m pc loc (vl b :: vl a :: st) M P :=
  Runs.lcmp hd (Runs.if_le hd2 ht (fun h => k1 (zcmp_le.mp h)) (fun h => k2 (zcmp_gt.mp h)))
theorem Runs.lcmp_eq {a b : Int} {off : Int} {tgt : Nat} (hd : decode m.2.1 pc = .ok (.lcmp, 1)) (hd2 : decode m.2.1 (pc + 1) = .ok (.ifCond .eq off, 3)) (ht : ((pc + 1 : Nat) : Int) + off = (tgt : Int)) (k1 : a = b → Runs X m tgt loc st M P) (k2 : a ≠ b → Runs X m (pc + 4) loc st M P) : Runs X m pc loc (vl b :: vl a :: st) M P :=
  Runs.lcmp hd (Runs.if_eq hd2 ht (fun h => k1 (zcmp_eq.mp h)) (fun h => k2 (fun q => h (zcmp_eq.mpr q))))
theorem Runs.lcmp_ne {a b : Int} {off : Int} {tgt : Nat} (hd : decode m.2.1 pc = .ok (.lcmp, 1)) (hd2 : decode m.2.1 (pc + 1) = .ok (.ifCond .ne off, 3)) (ht : ((pc + 1 : Nat) : Int) + off = (tgt : Int)) (k1 : a ≠ b → Runs X m tgt loc st M P) (k2 : a = b → Runs X m (pc + 4) loc st M P) : Runs X m pc loc (vl b :: vl a :: st) M P :=
  Runs.lcmp hd (Runs.if_ne hd2 ht (fun h => k1 (fun q => h (zcmp_eq.mpr q))) (fun h => k2 (zcmp_eq.mp h)))
-- ===== switches
theorem Runs.tableIn {dflt lo hi : Int} {offs : Array Int} {len : Nat} {a : Int} {off : Int} {tgt : Nat} (hd : decode m.2.1 pc = .ok (.tableswitch dflt lo hi offs, len)) (h1 : lo ≤ a) (h2 : a ≤ hi) (ho : offs[(a - lo).toNat]? = some off) (ht : (pc : Int) + off = (tgt : Int)) (kk : Runs X m tgt loc st M P) : Runs X m pc loc (vi a :: st) M P := by
  refine Runs.lift (fun p l e R s mid args below meth c cells slots D cA ad A Q C w => ?_) kk
  intro hM hL hS ls H locs hlv hH
  have ha : inI a := wfS_h hS
  exact lv_tableIn C.1 C.2.1 hd (by rw [i32_t ha]; omega) (by rw [i32_t ha]; omega) (by rw [i32_t ha]; exact ho) ht (w hM hL (wfS_t hS) ls H locs hlv hH)
theorem Runs.tableOut {dflt lo hi : Int} {offs : Array Int} {len : Nat} {a : Int} {tgt : Nat} (hd : decode m.2.1 pc = .ok (.tableswitch dflt lo hi offs, len)) (h : a < lo ∨ hi < a) (ht : (pc : Int) + dflt = (tgt : Int)) (kk : Runs X m tgt loc st M P) : Runs X m pc loc (vi a :: st) M P := by
  refine Runs.lift (fun p l e R s mid args below meth c cells slots D cA ad A Q C w => ?_) kk
  intro hM hL hS ls H locs hlv hH
  have ha : inI a := wfS_h hS
  exact lv_tableOut C.1 C.2.1 hd (by rw [i32_t ha]; exact h) ht (w hM hL (wfS_t hS) ls H locs hlv hH)
theorem Runs.lookup {dflt : Int} {ps : Array (Int × Int)} {len : Nat} {a : Int} {off : Int} {tgt : Nat} (hd : decode m.2.1 pc = .ok (.lookupswitch dflt ps, len)) (hp : (ps.toList.zip (ps.toList.drop 1)).all (fun (a, next) => a.1 < next.1) = true) (ho : Op.lookupswitch.offset ps.toList dflt a = off) (ht : (pc : Int) + off = (tgt : Int)) (kk : Runs X m tgt loc st M P) : Runs X m pc loc (vi a :: st) M P := by
  refine Runs.lift (fun p l e R s mid args below meth c cells slots D cA ad A Q C w => ?_) kk
  intro hM hL hS ls H locs hlv hH
  have ha : inI a := wfS_h hS
  exact lv_lookup C.1 C.2.1 hd hp (by rw [i32_t ha]; exact ho) ht (w hM hL (wfS_t hS) ls H locs hlv hH)
-- ===== returns
theorem Runs.ret0 (hd : decode m.2.1 pc = .ok (.return_, 1)) (hr : m.2.2.2.1 = none) (k : P none M) : Runs X m pc loc [] M P := by
  intro p l e R s mid args below meth c cells slots D cA ad A Q C F hM hL hS ls H locs hlv hH
  exact F none M H locs ls pc k hM (by rw [hr]; trivial) hH hd
theorem Runs.reti {z : Int} (hd : decode m.2.1 pc = .ok (.ireturn, 1)) (hr : m.2.2.2.1 = some .int) (k : P (some (vi z)) M) : Runs X m pc loc [vi z] M P := by
  intro p l e R s mid args below meth c cells slots D cA ad A Q C F hM hL hS ls H locs hlv hH
  exact F (some (vi z)) M H locs ls pc k hM (by rw [hr]; exact wfS_h hS) hH hd
theorem Runs.retz {z : Int} (hd : decode m.2.1 pc = .ok (.ireturn, 1)) (hr : m.2.2.2.1 = some .boolean) (hz : 0 ≤ z ∧ z ≤ 1) (k : P (some (vi z)) M) : Runs X m pc loc [vi z] M P := by
  intro p l e R s mid args below meth c cells slots D cA ad A Q C F hM hL hS ls H locs hlv hH
  exact F (some (vi z)) M H locs ls pc k hM (by rw [hr]; exact hz) hH hd
theorem Runs.retl {z : Int} (hd : decode m.2.1 pc = .ok (.lreturn, 1)) (hr : m.2.2.2.1 = some .long) (k : P (some (vl z)) M) : Runs X m pc loc [vl z] M P := by
  intro p l e R s mid args below meth c cells slots D cA ad A Q C F hM hL hS ls H locs hlv hH
  exact F (some (vl z)) M H locs ls pc k hM (by rw [hr]; exact wfS_h hS) hH hd
end RF
end
section
/-! ===== fields and arrays ===== -/
theorem ent_o {cA : FieldType → ClassId} {ad : Nat → Nat} {M : Mem} {o ci : Nat} (h : kd o = some (.inl ci)) : ent cA ad M o = .inr (ci, fdV ad M o ci) := by unfold ent; rw [h]
theorem ent_a {cA : FieldType → ClassId} {ad : Nat → Nat} {M : Mem} {o n : Nat} {ty : FieldType} (h : kd o = some (.inr (ty, n))) : ent cA ad M o = .inl (cA ty, n, arP ad M o ty) := by unfold ent; rw [h]
theorem fdV_at {ad : Nat → Nat} {M : Mem} {o ci j : Nat} (h : j < nFd ci) : (fdV ad M o ci)[j]? = some (cS ad (ftC ci j) (rfs o j) (M o j)) := by
  unfold fdV
  rw [List.getElem?_map, List.getElem?_range h]
  rfl
theorem fdV_len {ad : Nat → Nat} {M : Mem} {o ci : Nat} : (fdV ad M o ci).length = nFd ci := by unfold fdV; rw [List.length_map, List.length_range]
theorem fdV_set {ad : Nat → Nat} {M : Mem} {o ci j : Nat} {z : Int} (h : j < nFd ci) : (fdV ad M o ci).set j (cS ad (ftC ci j) (rfs o j) z) = fdV ad (up2 M o j z) o ci := by
  apply List.ext_getElem?
  intro k
  by_cases hk : k = j
  · subst hk
    rw [List.getElem?_set_self (by rw [fdV_len]; exact h), fdV_at h, up2_s]
  · rw [List.getElem?_set_ne (Ne.symm hk)]
    by_cases hl : k < nFd ci
    · rw [fdV_at hl, fdV_at hl]
      simp [up2, hk]
    · rw [List.getElem?_eq_none (by rw [fdV_len]; omega), List.getElem?_eq_none (by rw [fdV_len]; omega)]
theorem up2_ne {M : Mem} {o j : Nat} {z : Int} : ∀ o', o' ≠ o → ∀ k, up2 M o j z o' k = M o' k := fun o' h k => by simp [up2, h]
theorem wfM_up {M : Mem} {o j : Nat} {z : Int} (h : wfM M) (hz : inT (sty o j) z) : wfM (up2 M o j z) := by
  intro o' j'
  unfold up2
  split
  next q => rw [q.1, q.2]; exact hz
  next q => exact h o' j'
/-- a class of the world, by its place: its fields' names, and that the tables have its words -/
def clsOK (ci : Nat) (C : String) (T : u_T) (N : Nat) : Prop := vwCl[ci]? = some (C, T, N) ∧ (∀ w ∈ u_ws C T N, w ∈ TB) ∧ (∀ k, k < N → parseFieldDescriptor (T k).2.2.1 = some (ftC ci k)) ∧ (∀ a, a < N → ∀ b, b < N → a ≠ b → (T a).2.1 ≠ (T b).2.1)
theorem nFd_of {ci N : Nat} {C : String} {T : u_T} (h : clsOK ci C T N) : nFd ci = N := by unfold nFd; rw [h.1]
def plainT (ty : FieldType) : Bool := match ty with
  | .int => true
  | .boolean => true
  | .byte => true
  | .long => true
  | _ => false
theorem cS_int {ad : Nat → Nat} {ty : FieldType} {r : Option Nat} {z : Int} (h : ty = .int ∨ ty = .boolean ∨ ty = .byte) : cS ad ty r z = .int (Int32.ofInt z) := by rcases h with rfl | rfl | rfl <;> rfl
theorem nar_b {z : Int} (h : 0 ≤ z ∧ z ≤ 1) : Int32.ofInt z &&& 1 = Int32.ofInt z := by
  rcases (show z = 0 ∨ z = 1 by omega) with rfl | rfl <;> rfl
theorem nar_y {z : Int} (h : -128 ≤ z ∧ z ≤ 127) : (Int32.ofInt z).toInt8.toInt32 = Int32.ofInt z := by
  apply Int32.toInt_inj.mp
  rw [Int8.toInt_toInt32, Int32.toInt_toInt8, i32_t ⟨by omega, by omega⟩]
  exact Int.bmod_eq_of_le (by omega) (by omega)
theorem nar_ok {ad : Nat → Nat} {ty : FieldType} {r : Option Nat} {z : Int} (hp : plainT ty = true) (hz : inT ty z) : narrow ty (cS ad ty r z) = cS ad ty r z ∧ fits ty (cS ad ty r z) = true := by
  cases ty <;> first | (cases hp; done) | skip
  · refine ⟨?_, ?_⟩
    · show Value.int _ = Value.int _
      rw [nar_y hz]
    · show (decide ((-128 : Int32) ≤ Int32.ofInt z) && decide (Int32.ofInt z ≤ 127)) = true
      have h1 : inI z := ⟨by have := hz.1; omega, by have := hz.2; omega⟩
      have h2 : (-128 : Int32) ≤ Int32.ofInt z := by
        rw [show (-128 : Int32) = Int32.ofInt (-128) from rfl, i32_le (by decide) h1]; exact hz.1
      have h3 : Int32.ofInt z ≤ (127 : Int32) := by
        rw [show (127 : Int32) = Int32.ofInt 127 from rfl, i32_le h1 (by decide)]; exact hz.2
      simp [h2, h3]
  · exact ⟨rfl, rfl⟩
  · exact ⟨rfl, rfl⟩
  · refine ⟨?_, ?_⟩
    · show Value.int _ = Value.int _
      rw [nar_b hz]
    · rcases (show z = 0 ∨ z = 1 by have := hz.1; have := hz.2; omega) with rfl | rfl <;> rfl
section RH
variable {X : Scr} {m : MR} {pc pc' : Nat} {loc loc' : List (Nat × AV)} {st st' : List AV} {M M' : Mem} {P : Option AV → Mem → Prop}
theorem inI_of {ty : FieldType} {z : Int} (h : ty = .int ∨ ty = .boolean ∨ ty = .byte) (hz : inT ty z) : inI z := by
  rcases h with rfl | rfl | rfl
  · exact hz
  · exact ⟨by have := hz.1; omega, by have := hz.2; omega⟩
  · exact ⟨by have := hz.1; omega, by have := hz.2; omega⟩
/-- how a field is linked: as one's own, or as a nest mate's -/
def FL (own : String) (index : Nat) (C n d : String) : Prop := (Cond.fieldLink own index C n d ∈ TB) ∨ ∃ host, Cond.fieldLinkNest own index C n d host ∈ tables_1
theorem Runs.getf {o ci j index : Nat} {C : String} {T : u_T} {N : Nat} {v : AV} (hd : decode m.2.1 pc = .ok (.getfield index, 3)) (hk : kd o = some (.inl ci)) (hc : clsOK ci C T N) (hj : j < N) (hT : (T j).1 = C) (hl : FL m.1.cls index C (T j).2.1 (T j).2.2.1) (hv : ∀ (ad : Nat → Nat), cS ad (ftC ci j) (rfs o j) (M o j) = cV ad v) (hw : wfM M → wfV v) (kk : Runs X m (pc + 3) loc (v :: st) M P) : Runs X m pc loc (vr o :: st) M P := by
  refine Runs.lift (fun p l e R s mid args below meth c cells slots D cA ad A Q C0 w => ?_) kk
  intro hM hL hS ls H locs hlv hH
  have hz := w hM hL (wfS_c (hw hM) (wfS_t hS)) ls H locs hlv hH
  obtain ⟨i, hi⟩ := at_CO hk
  have he := at_wsO (cA := cA) (ad := ad) (M := M) hi
  rw [ent_o hk] at he
  have hf : (fdV ad M o ci)[j]? = some (cV ad v) := by rw [fdV_at (by rw [nFd_of hc]; exact hj), hv ad]
  rcases hl with hl | ⟨host, hl⟩
  · exact va_get C0.1 C0.2.1 (own := m.1.cls) (ref := C) C0.2.2.2.2.1 hc.2.1 C0.2.2.2.1 C0.2.2.2.2.2.2.1 hH.1 i he hc.1 j hj (C0.2.2.2.2.1 _ hl) (fun x hx => by rw [hT] at hx; exact hx) hf hd hz
  · exact va_getN C0.1 C0.2.1 (own := m.1.cls) (ref := C) (host := host) C0.2.2.2.2.1 hc.2.1 C0.2.2.2.1 C0.2.2.2.2.2.2.1 hH.1 i he hc.1 j hj (va_Nw.use rfl (C0.2.2.2.2.2.1 _ hl rfl)) (fun x hx => by rw [hT] at hx; exact hx) hf hd hz
theorem Runs.geti {o ci j index : Nat} {C : String} {T : u_T} {N : Nat} (hd : decode m.2.1 pc = .ok (.getfield index, 3)) (hk : kd o = some (.inl ci)) (hc : clsOK ci C T N) (hj : j < N) (hT : (T j).1 = C) (hl : FL m.1.cls index C (T j).2.1 (T j).2.2.1) (hy : ftC ci j = .int ∨ ftC ci j = .boolean ∨ ftC ci j = .byte) (kk : Runs X m (pc + 3) loc (vi (M o j) :: st) M P) : Runs X m pc loc (vr o :: st) M P :=
  Runs.getf hd hk hc hj hT hl (v := vi (M o j)) (fun ad => cS_int hy) (fun hM => inI_of hy (by have h := hM o j; unfold sty at h; rw [hk] at h; exact h)) kk
theorem Runs.getl {o ci j index : Nat} {C : String} {T : u_T} {N : Nat} (hd : decode m.2.1 pc = .ok (.getfield index, 3)) (hk : kd o = some (.inl ci)) (hc : clsOK ci C T N) (hj : j < N) (hT : (T j).1 = C) (hl : FL m.1.cls index C (T j).2.1 (T j).2.2.1) (hy : ftC ci j = .long) (kk : Runs X m (pc + 3) loc (vl (M o j) :: st) M P) : Runs X m pc loc (vr o :: st) M P :=
  Runs.getf hd hk hc hj hT hl (v := vl (M o j)) (fun ad => by rw [hy]; rfl) (fun hM => by have h := hM o j; unfold sty at h; rw [hk] at h; dsimp only at h; rw [hy] at h; exact h) kk
theorem Runs.getr {o ci j index o' : Nat} {C : String} {T : u_T} {N : Nat} (hd : decode m.2.1 pc = .ok (.getfield index, 3)) (hk : kd o = some (.inl ci)) (hc : clsOK ci C T N) (hj : j < N) (hT : (T j).1 = C) (hl : FL m.1.cls index C (T j).2.1 (T j).2.2.1) (hr : rfs o j = some o') (hy : plainT (ftC ci j) = false ∧ ∃ t, ftC ci j = .object t ∨ ∃ u, ftC ci j = .array u) (kk : Runs X m (pc + 3) loc (vr o' :: st) M P) : Runs X m pc loc (vr o :: st) M P :=
  Runs.getf hd hk hc hj hT hl (v := vr o') (fun ad => by
    rw [hr]
    obtain ⟨-, t, h | ⟨u, h⟩⟩ := hy <;> rw [h] <;> rfl) (fun _ => trivial) kk
theorem Runs.putf {o ci j index : Nat} {C : String} {T : u_T} {N : Nat} {z : Int} {v : AV} (hd : decode m.2.1 pc = .ok (.putfield index, 3)) (hk : kd o = some (.inl ci)) (hc : clsOK ci C T N) (hj : j < N) (hT : (T j).1 = C) (hl : FL m.1.cls index C (T j).2.1 (T j).2.2.1) (hf : (T j).2.2.2 = false) (hp : plainT (ftC ci j) = true) (hz : wfV v → inT (ftC ci j) z) (hv : ∀ ad : Nat → Nat, cS ad (ftC ci j) (rfs o j) z = cV ad v) (kk : Runs X m (pc + 3) loc st (up2 M o j z) P) : Runs X m pc loc (v :: vr o :: st) M P := by
  refine Runs.lift (fun p l e R s mid args below meth c cells slots D cA ad A Q C0 w => ?_) kk
  intro hM hL hS ls H locs hlv hH
  have hzz := hz (wfS_h hS)
  obtain ⟨i, hi⟩ := at_CO hk
  have he := at_wsO (cA := cA) (ad := ad) (M := M) hi
  rw [ent_o hk] at he
  obtain ⟨hn, hfit⟩ := nar_ok (ad := ad) (r := rfs o j) hp hzz
  have hj2 : j < nFd ci := by rw [nFd_of hc]; exact hj
  have hset : (wsO cA ad M).set i (ad o, .inr (ci, (fdV ad M o ci).set j (cV ad v))) = wsO cA ad (up2 M o j z) := by
    rw [← hv ad, fdV_set hj2, ← ent_o (cA := cA) hk]
    exact set_wsO hi up2_ne
  have hwf : wfM (up2 M o j z) := wfM_up hM (by unfold sty; rw [hk]; exact hzz)
  have go : ∀ (H1 : Heap) (locs1 : List Loc), va_P D vwCl ((wsO cA ad M).set i (ad o, .inr (ci, (fdV ad M o ci).set j (cV ad v)))) H1 → va_D A ((wsO cA ad M).set i (ad o, .inr (ci, (fdV ad M o ci).set j (cV ad v)))) → va_S A s.heap H1 locs1 → W p l e R s mid args below meth c H1 locs1 cells slots Q (F0 mid (pc + 3) ls (st.map (cV ad))) := by
    intro H1 locs1 hP1 hD1 hS1
    rw [hset] at hP1 hD1
    exact w hwf hL (wfS_t (wfS_t hS)) ls H1 locs1 hlv ⟨hP1, hD1, hS1⟩
  rw [hv ad] at hn hfit
  rcases hl with hl | ⟨host, hl⟩
  · exact va_put C0.1 C0.2.1 (own := m.1.cls) (ref := C) C0.2.2.2.2.1 hc.2.1 (ftC ci) hc.2.2.1 hc.2.2.2 C0.2.2.2.1 C0.2.2.2.2.2.2.1 hH.1 hH.2.1 hH.2.2 i he hc.1 j hj (C0.2.2.2.2.1 _ hl) (fun x hx => by rw [hT] at hx; exact hx) hf (hc.2.2.1 j hj) hn hfit (by rw [fdV_len]; exact hj2) hd go
  · exact va_putN C0.1 C0.2.1 (own := m.1.cls) (ref := C) (host := host) C0.2.2.2.2.1 hc.2.1 (ftC ci) hc.2.2.1 hc.2.2.2 C0.2.2.2.1 C0.2.2.2.2.2.2.1 hH.1 hH.2.1 hH.2.2 i he hc.1 j hj (va_Nw.use rfl (C0.2.2.2.2.2.1 _ hl rfl)) (fun x hx => by rw [hT] at hx; exact hx) hf (hc.2.2.1 j hj) hn hfit (by rw [fdV_len]; exact hj2) hd go
theorem Runs.puti {o ci j index : Nat} {C : String} {T : u_T} {N : Nat} {z : Int} (hd : decode m.2.1 pc = .ok (.putfield index, 3)) (hk : kd o = some (.inl ci)) (hc : clsOK ci C T N) (hj : j < N) (hT : (T j).1 = C) (hl : FL m.1.cls index C (T j).2.1 (T j).2.2.1) (hf : (T j).2.2.2 = false) (hy : ftC ci j = .int) (kk : Runs X m (pc + 3) loc st (up2 M o j z) P) : Runs X m pc loc (vi z :: vr o :: st) M P :=
  Runs.putf hd hk hc hj hT hl hf (by rw [hy]; rfl) (fun h => by rw [hy]; exact h) (fun ad => cS_int (Or.inl hy)) kk
theorem Runs.putz {o ci j index : Nat} {C : String} {T : u_T} {N : Nat} {z : Int} (hd : decode m.2.1 pc = .ok (.putfield index, 3)) (hk : kd o = some (.inl ci)) (hc : clsOK ci C T N) (hj : j < N) (hT : (T j).1 = C) (hl : FL m.1.cls index C (T j).2.1 (T j).2.2.1) (hf : (T j).2.2.2 = false) (hy : ftC ci j = .boolean) (hz : 0 ≤ z ∧ z ≤ 1) (kk : Runs X m (pc + 3) loc st (up2 M o j z) P) : Runs X m pc loc (vi z :: vr o :: st) M P :=
  Runs.putf hd hk hc hj hT hl hf (by rw [hy]; rfl) (fun _ => by rw [hy]; exact hz) (fun ad => cS_int (Or.inr (Or.inl hy))) kk
theorem Runs.putl {o ci j index : Nat} {C : String} {T : u_T} {N : Nat} {z : Int} (hd : decode m.2.1 pc = .ok (.putfield index, 3)) (hk : kd o = some (.inl ci)) (hc : clsOK ci C T N) (hj : j < N) (hT : (T j).1 = C) (hl : FL m.1.cls index C (T j).2.1 (T j).2.2.1) (hf : (T j).2.2.2 = false) (hy : ftC ci j = .long) (kk : Runs X m (pc + 3) loc st (up2 M o j z) P) : Runs X m pc loc (vl z :: vr o :: st) M P :=
  Runs.putf hd hk hc hj hT hl hf (by rw [hy]; rfl) (fun h => by rw [hy]; exact h) (fun ad => by rw [hy]; rfl) kk
-- ===== arrays
theorem in_ix {i : Int} {n : Nat} (h0 : 0 ≤ i) (h1 : i < n) (hi : inI i) : vp_in (Int32.ofInt i) n := by
  rw [vp_in_iff, i32_t hi]
  exact ⟨h0, h1⟩
theorem cl_ix {i : Int} (h0 : 0 ≤ i) (hi : inI i) : (Int32.ofInt i).toNatClampNeg = i.toNat := by
  rw [Int32.toNatClampNeg_ofInt_of_le (by omega) (by omega)]
theorem ty_at {cA : FieldType → ClassId} {ty : FieldType} (h : ty = .byte ∨ ty = .int ∨ ty = .boolean ∨ ty = tyS ∨ ty = tyT) : ∃ t : Nat, (tysO cA)[t]? = some (cA ty, ty) := by
  rcases h with rfl | rfl | rfl | rfl | rfl
  · exact ⟨0, rfl⟩
  · exact ⟨1, rfl⟩
  · exact ⟨2, rfl⟩
  · exact ⟨3, rfl⟩
  · exact ⟨4, rfl⟩
theorem kd_ty {o n : Nat} {ty : FieldType} (h : kd o = some (.inr (ty, n))) : ty = .byte ∨ ty = .int ∨ ty = .boolean ∨ ty = tyS ∨ ty = tyT := by
  unfold kd at h
  split at h
  · split at h
    · cases h
    · simp only [Option.some.injEq, Sum.inr.injEq, Prod.mk.injEq] at h
      exact Or.inr (Or.inl h.1.symm)
  · unfold kdT at h
    split at h <;> first | (cases h; done) | (simp only [Option.some.injEq, Sum.inr.injEq, Prod.mk.injEq] at h; obtain ⟨rfl, rfl⟩ := h; simp)
theorem Runs.alen {o n : Nat} {ty : FieldType} (hd : decode m.2.1 pc = .ok (.arraylength, 1)) (hk : kd o = some (.inr (ty, n))) (hn : n < 2147483648) (kk : Runs X m (pc + 1) loc (vi (n : Int) :: st) M P) : Runs X m pc loc (vr o :: st) M P := by
  refine Runs.lift (fun p l e R s mid args below meth c cells slots D cA ad A Q C0 w => ?_) kk
  intro hM hL hS ls H locs hlv hH
  obtain ⟨i, hi⟩ := at_CO hk
  have he := at_wsO (cA := cA) (ad := ad) (M := M) hi
  rw [ent_a hk] at he
  obtain ⟨t, ht⟩ := ty_at (cA := cA) (kd_ty hk)
  exact va_alen C0.1 C0.2.1 C0.2.2.2.2.2.2.1 hH.1 i t he ht (v := Int32.ofInt (n : Int)) (by rw [Int32.ofInt_eq_ofNat]) hd (w hM hL (wfS_c (show inI (n : Int) from ⟨by omega, by omega⟩) (wfS_t hS)) ls H locs hlv hH)
theorem arP_i {ad : Nat → Nat} {M : Mem} {o : Nat} {ty : FieldType} (h : ty = .int ∨ ty = .boolean ∨ ty = .byte) : arP ad M o ty = .inl (fun j => Int32.ofInt (M o j)) := by rcases h with rfl | rfl | rfl <;> rfl
theorem sty_a {o n j : Nat} {ty : FieldType} (hk : kd o = some (.inr (ty, n))) : sty o j = ty := by unfold sty; rw [hk]
theorem Runs.iald {o n : Nat} {i : Int} (hd : decode m.2.1 pc = .ok (.iaload, 1)) (hk : kd o = some (.inr (.int, n))) (h0 : 0 ≤ i) (h1 : i < n) (kk : Runs X m (pc + 1) loc (vi (M o i.toNat) :: st) M P) : Runs X m pc loc (vi i :: vr o :: st) M P := by
  refine Runs.lift (fun p l e R s mid args below meth c cells slots D cA ad A Q C0 w => ?_) kk
  intro hM hL hS ls H locs hlv hH
  have hi0 : inI i := wfS_h hS
  obtain ⟨q, hq⟩ := at_CO hk
  have he := at_wsO (cA := cA) (ad := ad) (M := M) hq
  rw [ent_a hk, arP_i (Or.inl rfl)] at he
  obtain ⟨t, ht⟩ := ty_at (cA := cA) (kd_ty hk)
  have k := w hM hL (wfS_c (v := vi (M o i.toNat)) (by have h := hM o i.toNat; rw [sty_a hk] at h; exact h) (wfS_t (wfS_t hS))) ls H locs hlv hH
  refine va_iald C0.1 C0.2.1 C0.2.2.2.2.2.2.1 hH.1 q t he ht (in_ix h0 h1 hi0) hd ?_
  rw [cl_ix h0 hi0]
  exact k
theorem Runs.bald {o n : Nat} {i : Int} (hd : decode m.2.1 pc = .ok (.baload, 1)) (hk : kd o = some (.inr (.byte, n))) (h0 : 0 ≤ i) (h1 : i < n) (kk : Runs X m (pc + 1) loc (vi (M o i.toNat) :: st) M P) : Runs X m pc loc (vi i :: vr o :: st) M P := by
  refine Runs.lift (fun p l e R s mid args below meth c cells slots D cA ad A Q C0 w => ?_) kk
  intro hM hL hS ls H locs hlv hH
  have hi0 : inI i := wfS_h hS
  obtain ⟨q, hq⟩ := at_CO hk
  have he := at_wsO (cA := cA) (ad := ad) (M := M) hq
  rw [ent_a hk, arP_i (Or.inr (Or.inr rfl))] at he
  obtain ⟨t, ht⟩ := ty_at (cA := cA) (kd_ty hk)
  have k := w hM hL (wfS_c (v := vi (M o i.toNat)) (inI_of (Or.inr (Or.inr rfl)) (by have h := hM o i.toNat; rw [sty_a hk] at h; exact h)) (wfS_t (wfS_t hS))) ls H locs hlv hH
  refine va_bald C0.1 C0.2.1 C0.2.2.2.2.2.2.1 hH.1 q t he ht (in_ix h0 h1 hi0) hd ?_
  rw [cl_ix h0 hi0]
  exact k
theorem Runs.zald {o n : Nat} {i : Int} (hd : decode m.2.1 pc = .ok (.baload, 1)) (hk : kd o = some (.inr (.boolean, n))) (h0 : 0 ≤ i) (h1 : i < n) (kk : Runs X m (pc + 1) loc (vi (M o i.toNat) :: st) M P) : Runs X m pc loc (vi i :: vr o :: st) M P := by
  refine Runs.lift (fun p l e R s mid args below meth c cells slots D cA ad A Q C0 w => ?_) kk
  intro hM hL hS ls H locs hlv hH
  have hi0 : inI i := wfS_h hS
  obtain ⟨q, hq⟩ := at_CO hk
  have he := at_wsO (cA := cA) (ad := ad) (M := M) hq
  rw [ent_a hk, arP_i (Or.inr (Or.inl rfl))] at he
  obtain ⟨t, ht⟩ := ty_at (cA := cA) (kd_ty hk)
  have k := w hM hL (wfS_c (v := vi (M o i.toNat)) (inI_of (Or.inr (Or.inl rfl)) (by have h := hM o i.toNat; rw [sty_a hk] at h; exact h)) (wfS_t (wfS_t hS))) ls H locs hlv hH
  refine va_zald C0.1 C0.2.1 C0.2.2.2.2.2.2.1 hH.1 q t he ht (in_ix h0 h1 hi0) hd ?_
  rw [cl_ix h0 hi0]
  exact k
theorem Runs.aald {o n o' : Nat} {i : Int} {C : String} (hd : decode m.2.1 pc = .ok (.aaload, 1)) (hk : kd o = some (.inr (.object C, n))) (h0 : 0 ≤ i) (h1 : i < n) (hr : rfs o i.toNat = some o') (kk : Runs X m (pc + 1) loc (vr o' :: st) M P) : Runs X m pc loc (vi i :: vr o :: st) M P := by
  refine Runs.lift (fun p l e R s mid args below meth c cells slots D cA ad A Q C0 w => ?_) kk
  intro hM hL hS ls H locs hlv hH
  have hi0 : inI i := wfS_h hS
  obtain ⟨q, hq⟩ := at_CO hk
  have he := at_wsO (cA := cA) (ad := ad) (M := M) hq
  rw [ent_a hk] at he
  obtain ⟨t, ht⟩ := ty_at (cA := cA) (kd_ty hk)
  have k := w hM hL (wfS_c (v := vr o') trivial (wfS_t (wfS_t hS))) ls H locs hlv hH
  refine va_aldq C0.1 C0.2.1 C0.2.2.2.2.2.2.1 hH.1 q t he ht (in_ix h0 h1 hi0) hd ?_
  rw [cl_ix h0 hi0, hr]
  exact k
theorem ent_up {cA : FieldType → ClassId} {ad : Nat → Nat} {M : Mem} {o n : Nat} {ty : FieldType} {i : Nat} {z : Int} {y : Int32} (hk : kd o = some (.inr (ty, n))) (h : ty = .int ∨ ty = .boolean ∨ ty = .byte) (hy : y = Int32.ofInt z) : (Sum.inl (cA ty, n, .inl (upd (fun j => Int32.ofInt (M o j)) i y)) : va_E) = ent cA ad (up2 M o i z) o := by
  rw [ent_a hk, arP_i h]
  congr 4
  funext j
  unfold upd up2
  subst hy
  by_cases hj : j = i
  · simp [hj]
  · simp [hj]
theorem Runs.iast {o n : Nat} {i z : Int} (hd : decode m.2.1 pc = .ok (.iastore, 1)) (hk : kd o = some (.inr (.int, n))) (h0 : 0 ≤ i) (h1 : i < n) (kk : Runs X m (pc + 1) loc st (up2 M o i.toNat z) P) : Runs X m pc loc (vi z :: vi i :: vr o :: st) M P := by
  refine Runs.lift (fun p l e R s mid args below meth c cells slots D cA ad A Q C0 w => ?_) kk
  intro hM hL hS ls H locs hlv hH
  have hz0 : inI z := wfS_h hS
  have hi0 : inI i := wfS_h (wfS_t hS)
  obtain ⟨q, hq⟩ := at_CO hk
  have he := at_wsO (cA := cA) (ad := ad) (M := M) hq
  rw [ent_a hk, arP_i (Or.inl rfl)] at he
  obtain ⟨t, ht⟩ := ty_at (cA := cA) (kd_ty hk)
  refine va_iast C0.1 C0.2.1 C0.2.2.2.2.2.2.1 hH.1 hH.2.1 hH.2.2 q t he ht (in_ix h0 h1 hi0) hd ?_
  rw [cl_ix h0 hi0, ent_up (ad := ad) hk (Or.inl rfl) rfl, set_wsO hq up2_ne]
  intro H1 locs1 hP1 hD1 hS1
  exact w (wfM_up hM (by rw [sty_a hk]; exact hz0)) hL (wfS_t (wfS_t (wfS_t hS))) ls H1 locs1 hlv ⟨hP1, hD1, hS1⟩
theorem Runs.zast {o n : Nat} {i z : Int} (hd : decode m.2.1 pc = .ok (.bastore, 1)) (hk : kd o = some (.inr (.boolean, n))) (h0 : 0 ≤ i) (h1 : i < n) (hz : 0 ≤ z ∧ z ≤ 1) (kk : Runs X m (pc + 1) loc st (up2 M o i.toNat z) P) : Runs X m pc loc (vi z :: vi i :: vr o :: st) M P := by
  refine Runs.lift (fun p l e R s mid args below meth c cells slots D cA ad A Q C0 w => ?_) kk
  intro hM hL hS ls H locs hlv hH
  have hi0 : inI i := wfS_h (wfS_t hS)
  obtain ⟨q, hq⟩ := at_CO hk
  have he := at_wsO (cA := cA) (ad := ad) (M := M) hq
  rw [ent_a hk, arP_i (Or.inr (Or.inl rfl))] at he
  obtain ⟨t, ht⟩ := ty_at (cA := cA) (kd_ty hk)
  refine va_zast C0.1 C0.2.1 C0.2.2.2.2.2.2.1 hH.1 hH.2.1 hH.2.2 q t he ht (in_ix h0 h1 hi0) hd ?_
  rw [cl_ix h0 hi0, ent_up (ad := ad) (z := z) hk (Or.inr (Or.inl rfl)) (show vp_nar .boolean (Int32.ofInt z) = _ from nar_b hz), set_wsO hq up2_ne]
  intro H1 locs1 hP1 hD1 hS1
  exact w (wfM_up hM (by rw [sty_a hk]; exact hz)) hL (wfS_t (wfS_t (wfS_t hS))) ls H1 locs1 hlv ⟨hP1, hD1, hS1⟩
theorem Runs.bast {o n : Nat} {i z : Int} (hd : decode m.2.1 pc = .ok (.bastore, 1)) (hk : kd o = some (.inr (.byte, n))) (h0 : 0 ≤ i) (h1 : i < n) (hz : -128 ≤ z ∧ z ≤ 127) (kk : Runs X m (pc + 1) loc st (up2 M o i.toNat z) P) : Runs X m pc loc (vi z :: vi i :: vr o :: st) M P := by
  refine Runs.lift (fun p l e R s mid args below meth c cells slots D cA ad A Q C0 w => ?_) kk
  intro hM hL hS ls H locs hlv hH
  have hi0 : inI i := wfS_h (wfS_t hS)
  obtain ⟨q, hq⟩ := at_CO hk
  have he := at_wsO (cA := cA) (ad := ad) (M := M) hq
  rw [ent_a hk, arP_i (Or.inr (Or.inr rfl))] at he
  obtain ⟨t, ht⟩ := ty_at (cA := cA) (kd_ty hk)
  refine va_bast C0.1 C0.2.1 C0.2.2.2.2.2.2.1 hH.1 hH.2.1 hH.2.2 q t he ht (in_ix h0 h1 hi0) hd ?_
  rw [cl_ix h0 hi0, ent_up (ad := ad) (z := z) hk (Or.inr (Or.inr rfl)) (show vp_nar .byte (Int32.ofInt z) = _ from nar_y hz), set_wsO hq up2_ne]
  intro H1 locs1 hP1 hD1 hS1
  exact w (wfM_up hM (by rw [sty_a hk]; exact hz)) hL (wfS_t (wfS_t (wfS_t hS))) ls H1 locs1 hlv ⟨hP1, hD1, hS1⟩
end RH
end
section
/-! ===== calls ===== -/
/-- the locals with which a method begins -/
def lvA : Nat → List AV → List (Nat × AV)
  | _, [] => []
  | i, v :: vs => (i, v) :: lvA (if cat2 v then i + 2 else i + 1) vs
def wds (vs : List AV) : Nat := (vs.map (fun v => if cat2 v then 2 else 1)).sum
/-- called with these arguments in this memory, the method returns so that P -/
def Call (X : Scr) (m : MR) (as : List AV) (M : Mem) (P : Option AV → Mem → Prop) : Prop := Runs X m 0 (lvA 0 as) [] M P
theorem lvA_c (ad : Nat → Nat) : ∀ (i : Nat) (vs : List AV), lv_args i (vs.map (cV ad)) = cL ad (lvA i vs)
  | _, [] => rfl
  | i, v :: vs => by
    have e : (if (cV ad v).category = 2 then i + 2 else i + 1) = (if cat2 v then i + 2 else i + 1) := by
      rcases v with z | z | o <;> rfl
    show (i, cV ad v) :: lv_args (if (cV ad v).category = 2 then i + 2 else i + 1) (vs.map (cV ad)) = (i, cV ad v) :: cL ad (lvA (if cat2 v then i + 2 else i + 1) vs)
    rw [e, lvA_c ad _ vs]
theorem sl_len (ad : Nat → Nat) : ∀ (vs : List AV), (lg_sl (vs.map (cV ad))).length = wds vs
  | [] => rfl
  | v :: vs => by
    have e := sl_len ad vs
    unfold lg_sl wds at e ⊢
    rw [List.map_cons, List.flatMap_cons, List.length_append, e, List.map_cons, List.sum_cons]
    rcases v with z | z | o <;> rfl
theorem wfL_A {vs : List AV} (h : wfS vs) : ∀ (i : Nat), wfL (lvA i vs) := by
  induction vs with
  | nil => intro i q hq; cases hq
  | cons v vs ih =>
    intro i q hq
    rcases List.mem_cons.mp hq with rfl | h1
    · exact h v List.mem_cons_self
    · exact ih (fun w hw => h w (List.mem_cons_of_mem _ hw)) _ q h1
/-- the world at a call's start and end -/
def BW (D : va_G) (cA : FieldType → ClassId) (ad : Nat → Nat) (A : Nat → Prop) (u : Mem) (t : State) : Prop := va_P D vwCl (wsO cA ad u) t.heap ∧ va_K D vwCl (tysO cA) t ∧ va_D A (wsO cA ad u) ∧ wfM u
def PW (D : va_G) (cA : FieldType → ClassId) (ad : Nat → Nat) (sz : Nat) (M : Mem) (as : List AV) : Array Value → State → Prop :=
  va_Pc (as.map (cV ad)) (fun U => U.heap.size = sz ∧ va_P D vwCl (wsO cA ad M) U.heap ∧ va_K D vwCl (tysO cA) U ∧ va_D (fun _ => True) (wsO cA ad M) ∧ NW U)
theorem PW_blind {D : va_G} {cA : FieldType → ClassId} {ad : Nat → Nat} {sz : Nat} {M : Mem} {as : List AV} : FrameBlind (PW D cA ad sz M as) := by
  intro a U g mk q
  obtain ⟨q0, q1, qP, qK, qD, qN⟩ := q
  exact ⟨q0, q1, qP, va_K.moved (u := U) (U := U.calling g mk a) (Vm.Alike.refl U.vm) qK, qD, NW.same (u := U) rfl qN⟩
/-- what a method's own record must be -/
def okM (m : MR) : Prop := plainName m.1.cls = true ∧ m.1 ≠ yL_law
section MM
variable {X : Scr} {m : MR} {as : List AV} {M : Mem} {P : Option AV → Mem → Prop} {D : va_G} {cA : FieldType → ClassId} {ad : Nat → Nat} {sz : Nat} {l : Launch}
/-- the common part of the three kinds of contract -/
theorem met_core (hC : Call X m as M P) (ho : okM m) (hw : wds as ≤ m.2.2.1) (hS : wfS as) (hM : wfM M) {Qc : Array Value → State → Outcome → State → Prop}
    (hfin : ∀ (p : Program) (e : Env) (s : State) (mid : MethodId) (args : Array Value) (below : List Frame) (meth : Method) (c : Code), p.tables.exec = Jvm.exec → c.code = m.2.1 → meth.sig.returnType = m.2.2.2.1 → meth.locks = false → s.heap.size = sz → va_K D vwCl (tysO cA) s →
      FinR m P p l e (rmO m) s mid args below meth c 0 0 D cA ad (va_A (wsO cA ad M) sz) (MQ below Qc args s 0 0 (va_A (wsO cA ad M) sz))) :
    Met l m.1 (wsM m) (rmO m) (PW D cA ad sz M as) Qc 0 0 (va_A (wsO cA ad M) sz) := by
  refine Met.ofW (cc := m.2.1) (maxL := m.2.2.1) (ret := m.2.2.2.1) ho.1 rfl ?_
  intro p e s mid args below meth c s₁ B hml hv
  obtain ⟨rfl, hsz, hP, hK, hD0, hN⟩ := hv
  have hts := atoms_spec (ws := wsM m) B.pre
  have hown : s.vm.findClass m.1.cls = some mid.cls := findClass_of_methodNamed B.named
  have hD : va_D (va_A (wsO cA ad M) sz) (wsO cA ad M) := hD0.self (sz := sz)
  have hl := lv_entry (as.map (cV ad)) (n := m.2.2.1) (by rw [sl_len]; exact hw)
  rw [lg_entry_eq]
  generalize (lg_sl (as.map (cV ad)) ++ List.replicate (m.2.2.1 - (lg_sl (as.map (cV ad))).length) Slot.unset).toArray = ls at hl ⊢
  rw [lvA_c] at hl
  exact hC p l e (rmO m) s mid (as.map (cV ad)).toArray below meth c 0 0 D cA ad (va_A (wsO cA ad M) sz) _
    ⟨B.exec, B.bytes, hml, hown, fun w h => hts w (List.mem_cons_of_mem _ h), hN, hK, fun q h => Or.inr (by rw [← hsz]; exact h), ⟨Nat.le_refl _, Nat.le_refl _⟩, ⟨Nat.zero_le _, Nat.zero_le _⟩, fun h => absurd h ho.2⟩
    (hfin p e s mid _ below meth c B.exec B.bytes B.returns B.notSynchronized hsz hK) hM (wfL_A hS 0) (fun v h => by cases h) ls s.heap [] hl ⟨hP, hD, va_S.rf⟩
theorem met_i (hC : Call X m as M P) (ho : okM m) (hw : wds as ≤ m.2.2.1) (hS : wfS as) (hM : wfM M) (hr : m.2.2.2.1 = some .int ∨ m.2.2.2.1 = some .boolean) :
    Met l m.1 (wsM m) (rmO m) (PW D cA ad sz M as) (va_Qi (fun (r : Int32) (u : Mem) => ∃ z : Int, r = Int32.ofInt z ∧ inI z ∧ P (some (vi z)) u) (BW D cA ad (va_A (wsO cA ad M) sz)) (va_A (wsO cA ad M) sz)) 0 0 (va_A (wsO cA ad M) sz) := by
  refine met_core hC ho hw hS hM ?_
  intro p e s mid args below meth c hx hb hret hlk hsz hK
  intro r M' H locs ls pc hP hwM hok hH hd
  rcases hr with hr | hr
  · rw [hr] at hok hret
    rcases r with _ | z | z | o
    · exact absurd hok (by simp [okR])
    · exact W.iret (v := Int32.ofInt z) hx hb hret (fun t ht hW => ⟨⟨_, M', rfl, ⟨z, rfl, hok, hP⟩, ⟨by rw [ht]; exact hH.1, va_K.moved hW.alike hK, hH.2.1, hwM⟩⟩, hH.2.2.F ht⟩) hH.2.2.2.2 hd hlk
    · exact absurd hok (by simp [okR])
    · exact absurd hok (by simp [okR])
  · rw [hr] at hok hret
    rcases r with _ | z | z | o
    · exact absurd hok (by simp [okR])
    · have hz : 0 ≤ z ∧ z ≤ 1 := hok
      exact W.zret (v := Int32.ofInt z) hx hb hret (show Value.int _ = Value.int _ by rw [nar_b hz]) (fun t ht hW => ⟨⟨_, M', rfl, ⟨z, rfl, ⟨by omega, by omega⟩, hP⟩, ⟨by rw [ht]; exact hH.1, va_K.moved hW.alike hK, hH.2.1, hwM⟩⟩, hH.2.2.F ht⟩) hH.2.2.2.2 hd hlk
    · exact absurd hok (by simp [okR])
    · exact absurd hok (by simp [okR])
theorem met_l (hC : Call X m as M P) (ho : okM m) (hw : wds as ≤ m.2.2.1) (hS : wfS as) (hM : wfM M) (hr : m.2.2.2.1 = some .long) :
    Met l m.1 (wsM m) (rmO m) (PW D cA ad sz M as) (va_Ql (fun (r : Int64) (u : Mem) => ∃ z : Int, r = Int64.ofInt z ∧ inL z ∧ P (some (vl z)) u) (BW D cA ad (va_A (wsO cA ad M) sz)) (va_A (wsO cA ad M) sz)) 0 0 (va_A (wsO cA ad M) sz) := by
  refine met_core hC ho hw hS hM ?_
  intro p e s mid args below meth c hx hb hret hlk hsz hK
  intro r M' H locs ls pc hP hwM hok hH hd
  rw [hr] at hok hret
  rcases r with _ | z | z | o
  · exact absurd hok (by simp [okR])
  · exact absurd hok (by simp [okR])
  · exact W.lret (v := Int64.ofInt z) hx hb hret (fun t ht hW => ⟨⟨_, M', rfl, ⟨z, rfl, hok, hP⟩, ⟨by rw [ht]; exact hH.1, va_K.moved hW.alike hK, hH.2.1, hwM⟩⟩, hH.2.2.F ht⟩) hH.2.2.2.2 hd hlk
  · exact absurd hok (by simp [okR])
theorem met_v (hC : Call X m as M P) (ho : okM m) (hw : wds as ≤ m.2.2.1) (hS : wfS as) (hM : wfM M) (hr : m.2.2.2.1 = none) :
    Met l m.1 (wsM m) (rmO m) (PW D cA ad sz M as) (va_Qv (fun (u : Mem) => P none u) (BW D cA ad (va_A (wsO cA ad M) sz)) (va_A (wsO cA ad M) sz)) 0 0 (va_A (wsO cA ad M) sz) := by
  refine met_core hC ho hw hS hM ?_
  intro p e s mid args below meth c hx hb hret hlk hsz hK
  intro r M' H locs ls pc hP hwM hok hH hd
  rw [hr] at hok hret
  rcases r with _ | z | z | o
  · exact W.vret hx hb hret (fun t ht hW => ⟨⟨M', rfl, hP, ⟨by rw [ht]; exact hH.1, va_K.moved hW.alike hK, hH.2.1, hwM⟩⟩, hH.2.2.F ht⟩) hH.2.2.2.2 hd hlk
  · exact absurd hok (by simp [okR])
  · exact absurd hok (by simp [okR])
  · exact absurd hok (by simp [okR])
end MM
/-- what a callee's record says: its code is in the tables, its descriptor has n parameters -/
def okC (y : MR) (n : Nat) : Prop := okM y ∧ Cond.code y.1 y.2.1 y.2.2.1 y.2.2.2.1 ∈ TB ∧ Cond.initialized y.1.cls ∈ TB ∧ y.1.cls ≠ "java/lang/invoke/MethodHandle" ∧ y.1.cls ≠ "java/lang/invoke/VarHandle" ∧ (parseMethodDescriptor y.1.desc).map (fun d => d.parameters.length) = some n
/-- how a method is linked -/
def ML (own : String) (index : Nat) (y : MethodName) : Prop := (Cond.methodLink own index y ∈ TB) ∨ ∃ host, Cond.methodLinkNest own index y host ∈ tables_1
/-- the callee's room is within the caller's -/
def okRm (m y : MR) : Prop := y.2.2.2.2.1 + 1 ≤ m.2.2.2.2.1 ∧ 8 + (y.2.2.1 + 11) + y.2.2.2.2.2 ≤ m.2.2.2.2.2
theorem wsM_good (y : MR) (h : Cond.code y.1 y.2.1 y.2.2.1 y.2.2.2.1 ∈ TB) : GoodIn TB (wsM y) := by
  intro w hw
  rcases List.mem_cons.mp hw with rfl | h1
  · exact tb_good _ h
  · exact tb_good _ h1
section CC
variable {X : Scr} {m y : MR} {pc : Nat} {loc : List (Nat × AV)} {st : List AV} {M : Mem} {P P' : Option AV → Mem → Prop}
theorem wfS_r {as rest : List AV} (h : wfS (as.reverse ++ rest)) : wfS as ∧ wfS rest := ⟨fun v hv => h v (List.mem_append_left _ (List.mem_reverse.mpr hv)), fun v hv => h v (List.mem_append_right _ hv)⟩
theorem cat_sum (ad : Nat → Nat) : ∀ (st : List AV), ((st.map (cV ad)).map (fun v => v.category)).sum = wds st
  | [] => rfl
  | v :: st => by
    have e := cat_sum ad st
    unfold wds at e ⊢
    rw [List.map_cons, List.map_cons, List.sum_cons, e, List.map_cons, List.sum_cons]
    rcases v with z | z | o <;> rfl
/-- an instance method called: what the machine does, by the kind of its link -/
theorem runV {p : Program} {l : Launch} {e : Env} {R : Room} {s : State} {mid : MethodId} {args : Array Value} {below : List Frame} {meth : Method} {c : Code} {cells slots : Nat} {D : va_G} {cA : FieldType → ClassId} {ad : Nat → Nat} {A : Nat → Prop} {ls : Array Slot} {H : Heap} {locs : List Loc} {Qc : Array Value → State → Outcome → State → Prop} {n index o ci : Nat} {as : List AV} {q : vw_C}
    (C : Ctx X m p R s mid args c cells slots D cA ad A) (hM : Met l y.1 (wsM y) (rmO y) (PW D cA ad H.size M (vr o :: as)) Qc 0 0 (va_A (wsO cA ad M) H.size)) (hy : okC y n) (hi : Cond.instanceMethod y.1 ∈ TB) (hs : Cond.selects y.1.cls y.1 y.1 ∈ TB) (hl : ML m.1.cls index y.1) (hn : as.length = n) (hrm : okRm m y) (hst : wds st ≤ 8) (hk : kd o = some (.inl ci)) (hc : vwCl[ci]? = some q) (hq : q.1 = y.1.cls)
    (hd : decode m.2.1 pc = .ok (.invokevirtual index, 3)) (hlv : lv_has ls m.2.2.1 (cL ad loc)) (hH : Hd D cA ad A s M H locs) :
    va_Run p l e R s mid args below meth c H locs cells slots 0 0 (F0 mid pc ls ((as.reverse ++ vr o :: st).map (cV ad))) (st.map (cV ad)) (Qc (Value.ref (ad o) :: as.map (cV ad)).toArray) (va_A (wsO cA ad M) H.size) := by
  obtain ⟨hx, hb, hml, hown, hts, hN, hK, hA, hR, hcs, -⟩ := C
  obtain ⟨hoM, hcode, hini, hy1, hy2, hdesc⟩ := hy
  obtain ⟨i, hi0⟩ := at_CO hk
  have he := at_wsO (cA := cA) (ad := ad) (M := M) hi0
  rw [ent_o hk] at he
  have hrec := va_recv hK hH.1 hc he
  rw [hq] at hrec
  have hpre : ∀ U : State, U.heap = H → s.WarmedH U.vm → PW D cA ad H.size M (vr o :: as) (Value.ref (ad o) :: as.map (cV ad)).toArray U := fun U hU hW => ⟨rfl, by rw [hU], by rw [hU]; exact hH.1, va_K.moved hW.alike hK, hH.2.1.weaken (fun _ _ _ _ => trivial), hN.warm hW⟩
  have hG := wsM_good y hcode
  have hroom : (rmO y).frames + 1 ≤ R.frames ∧ 8 + (y.2.2.1 + 11) + (rmO y).locals ≤ R.locals := ⟨Nat.le_trans hrm.1 hR.1, Nat.le_trans hrm.2 hR.2⟩
  have hstack : ((as.reverse ++ vr o :: st).map (cV ad)) = (as.map (cV ad)).reverse ++ Value.ref (ad o) :: st.map (cV ad) := by
    rw [List.map_append, List.map_reverse]; rfl
  have hcat : 2 * (F0 mid pc ls ((as.reverse ++ vr o :: st).map (cV ad))).monitorRoom + ((st.map (cV ad)).map fun v => v.category).sum ≤ 8 := lv_room (by rw [cat_sum]; exact hst)
  rcases hl with hl | ⟨host, hl⟩
  · refine va_runV (As := as.map (cV ad)) (rest := st.map (cV ad)) (n := n) (C := y.1.cls) (Ts := TB) (own := m.1.cls) (nL := m.2.2.1) (bytes := y.2.1) (maxL := y.2.2.1) (ret := y.2.2.2.1) ⟨hx, hb, hml, hown, hts⟩ hM ?_ ⟨PW_blind, hrec, hpre⟩ rfl (by rw [List.length_map]; exact hn) hlv.1 hstack hcat hd ⟨hcs.1, hcs.2⟩
    exact ⟨⟨rfl, rfl, hroom.1, hroom.2, pay_in hts hG, List.mem_cons_self, hts _ hcode, hts _ hini, ⟨hy1, hy2⟩, fun sig h => by rw [h] at hdesc; exact (Option.some.inj hdesc).symm, hts _ hl⟩, hts _ hi, hts _ hs⟩
  · refine va_runVN (As := as.map (cV ad)) (rest := st.map (cV ad)) (n := n) (C := y.1.cls) (host := host) (Ts := TB) (own := m.1.cls) (nL := m.2.2.1) (bytes := y.2.1) (maxL := y.2.2.1) (ret := y.2.2.2.1) ⟨hx, hb, hml, hown, hts⟩ hM ?_ ⟨PW_blind, hrec, hpre⟩ rfl (by rw [List.length_map]; exact hn) hlv.1 hstack hcat hd ⟨hcs.1, hcs.2⟩
    exact ⟨va_cnB n hts hG rfl rfl rfl (hN _ hl rfl) (hts _ hini) ⟨hy1, hy2, hdesc⟩ hroom, hts _ hi, hts _ hs⟩
theorem runS {p : Program} {l : Launch} {e : Env} {R : Room} {s : State} {mid : MethodId} {args : Array Value} {below : List Frame} {meth : Method} {c : Code} {cells slots : Nat} {D : va_G} {cA : FieldType → ClassId} {ad : Nat → Nat} {A : Nat → Prop} {ls : Array Slot} {H : Heap} {locs : List Loc} {Qc : Array Value → State → Outcome → State → Prop} {n index : Nat} {as : List AV}
    (C : Ctx X m p R s mid args c cells slots D cA ad A) (hM : Met l y.1 (wsM y) (rmO y) (PW D cA ad H.size M as) Qc 0 0 (va_A (wsO cA ad M) H.size)) (hy : okC y n) (hi : Cond.static y.1 ∈ TB) (hl : ML m.1.cls index y.1) (hn : as.length = n) (hrm : okRm m y) (hst : wds st ≤ 8)
    (hd : decode m.2.1 pc = .ok (.invokestatic index, 3)) (hlv : lv_has ls m.2.2.1 (cL ad loc)) (hH : Hd D cA ad A s M H locs) :
    va_Run p l e R s mid args below meth c H locs cells slots 0 0 (F0 mid pc ls ((as.reverse ++ st).map (cV ad))) (st.map (cV ad)) (Qc (as.map (cV ad)).toArray) (va_A (wsO cA ad M) H.size) := by
  obtain ⟨hx, hb, hml, hown, hts, hN, hK, hA, hR, hcs, -⟩ := C
  obtain ⟨hoM, hcode, hini, hy1, hy2, hdesc⟩ := hy
  have hpre : ∀ U : State, U.heap = H → s.WarmedH U.vm → PW D cA ad H.size M as (as.map (cV ad)).toArray U := fun U hU hW => ⟨rfl, by rw [hU], by rw [hU]; exact hH.1, va_K.moved hW.alike hK, hH.2.1.weaken (fun _ _ _ _ => trivial), hN.warm hW⟩
  have hG := wsM_good y hcode
  have hroom : (rmO y).frames + 1 ≤ R.frames ∧ 8 + (y.2.2.1 + 11) + (rmO y).locals ≤ R.locals := ⟨Nat.le_trans hrm.1 hR.1, Nat.le_trans hrm.2 hR.2⟩
  have hstack : ((as.reverse ++ st).map (cV ad)) = (as.map (cV ad)).reverse ++ st.map (cV ad) := by
    rw [List.map_append, List.map_reverse]
  have hcat : 2 * (F0 mid pc ls ((as.reverse ++ st).map (cV ad))).monitorRoom + ((st.map (cV ad)).map fun v => v.category).sum ≤ 8 := lv_room (by rw [cat_sum]; exact hst)
  rcases hl with hl | ⟨host, hl⟩
  · refine va_runS (As := as.map (cV ad)) (rest := st.map (cV ad)) (n := n) (Ts := TB) (own := m.1.cls) (nL := m.2.2.1) (bytes := y.2.1) (maxL := y.2.2.1) (ret := y.2.2.2.1) ⟨hx, hb, hml, hown, hts⟩ hM ?_ ⟨PW_blind, hpre⟩ rfl (by rw [List.length_map]; exact hn) hlv.1 hstack hcat hd ⟨hcs.1, hcs.2⟩
    exact ⟨⟨rfl, rfl, hroom.1, hroom.2, pay_in hts hG, List.mem_cons_self, hts _ hcode, hts _ hini, ⟨hy1, hy2⟩, fun sig h => by rw [h] at hdesc; exact (Option.some.inj hdesc).symm, hts _ hl⟩, hts _ hi⟩
  · refine va_runSN (As := as.map (cV ad)) (rest := st.map (cV ad)) (n := n) (host := host) (Ts := TB) (own := m.1.cls) (nL := m.2.2.1) (bytes := y.2.1) (maxL := y.2.2.1) (ret := y.2.2.2.1) ⟨hx, hb, hml, hown, hts⟩ hM ?_ ⟨PW_blind, hpre⟩ rfl (by rw [List.length_map]; exact hn) hlv.1 hstack hcat hd ⟨hcs.1, hcs.2⟩
    exact ⟨va_cnB n hts hG rfl rfl rfl (hN _ hl rfl) (hts _ hini) ⟨hy1, hy2, hdesc⟩ hroom, hts _ hi, trivial⟩
/-- the way on behind a call -/
theorem free_A {s : State} {D : va_G} {cA : FieldType → ClassId} {ad : Nat → Nat} {A : Nat → Prop} {H : Heap} {locs : List Loc} (hH : Hd D cA ad A s M H locs) (hA : ∀ q, s.heap.size ≤ q → A q) : ∀ q, va_A (wsO cA ad M) H.size q → A q := by
  intro q h
  rcases h with ⟨k, e, h⟩ | h
  · exact hH.2.1.2 k (q, e) h
  · exact hA q (Nat.le_trans hH.2.2.1 h)
theorem Runs.callVi {n index o ci : Nat} {as : List AV} {q : vw_C} (hd : decode m.2.1 pc = .ok (.invokevirtual index, 3)) (hy : okC y n) (hi : Cond.instanceMethod y.1 ∈ TB) (hs : Cond.selects y.1.cls y.1 y.1 ∈ TB) (hl : ML m.1.cls index y.1) (hn : as.length = n) (hrm : okRm m y) (hst : wds st ≤ 8) (hw : wds (vr o :: as) ≤ y.2.2.1) (hk : kd o = some (.inl ci)) (hc : vwCl[ci]? = some q) (hq : q.1 = y.1.cls) (hr : y.2.2.2.1 = some .int ∨ y.2.2.2.1 = some .boolean)
    (hC : Call X y (vr o :: as) M P') (kk : ∀ (z : Int) (M1 : Mem), P' (some (vi z)) M1 → Runs X m (pc + 3) loc (vi z :: st) M1 P) : Runs X m pc loc (as.reverse ++ vr o :: st) M P := by
  intro p l e R s mid args below meth c cells slots D cA ad A Q C F hM hL hS ls H locs hlv hH
  have hS2 := wfS_r (as := as) (rest := vr o :: st) hS
  refine va_calli (runV C (met_i hC hy.1 hw (wfS_c trivial hS2.1) hM hr) hy hi hs hl hn hrm hst hk hc hq hd hlv hH) hH.2.2 (fun q _ h => free_A hH C.2.2.2.2.2.2.2.1 q h) (free_A hH C.2.2.2.2.2.2.2.1) (fun r u t H1 locs1 ht hvm hpost hB hz1 hk1 hS1 => ?_)
  obtain ⟨z, rfl, hz, hP'⟩ := hpost
  obtain ⟨b1, b2, b3, b4⟩ := hB
  rw [ht] at b1
  exact kk z u hP' p l e R s mid args below meth c cells slots D cA ad A Q C F b4 hL (wfS_c hz (wfS_t hS2.2)) ls H1 locs1 hlv ⟨b1, D_wsO u hH.2.1, hS1⟩
theorem Runs.callVl {n index o ci : Nat} {as : List AV} {q : vw_C} (hd : decode m.2.1 pc = .ok (.invokevirtual index, 3)) (hy : okC y n) (hi : Cond.instanceMethod y.1 ∈ TB) (hs : Cond.selects y.1.cls y.1 y.1 ∈ TB) (hl : ML m.1.cls index y.1) (hn : as.length = n) (hrm : okRm m y) (hst : wds st ≤ 8) (hw : wds (vr o :: as) ≤ y.2.2.1) (hk : kd o = some (.inl ci)) (hc : vwCl[ci]? = some q) (hq : q.1 = y.1.cls) (hr : y.2.2.2.1 = some .long)
    (hC : Call X y (vr o :: as) M P') (kk : ∀ (z : Int) (M1 : Mem), P' (some (vl z)) M1 → Runs X m (pc + 3) loc (vl z :: st) M1 P) : Runs X m pc loc (as.reverse ++ vr o :: st) M P := by
  intro p l e R s mid args below meth c cells slots D cA ad A Q C F hM hL hS ls H locs hlv hH
  have hS2 := wfS_r (as := as) (rest := vr o :: st) hS
  refine va_calll (runV C (met_l hC hy.1 hw (wfS_c trivial hS2.1) hM hr) hy hi hs hl hn hrm hst hk hc hq hd hlv hH) hH.2.2 (fun q _ h => free_A hH C.2.2.2.2.2.2.2.1 q h) (free_A hH C.2.2.2.2.2.2.2.1) (fun r u t H1 locs1 ht hvm hpost hB hz1 hk1 hS1 => ?_)
  obtain ⟨z, rfl, hz, hP'⟩ := hpost
  obtain ⟨b1, b2, b3, b4⟩ := hB
  rw [ht] at b1
  exact kk z u hP' p l e R s mid args below meth c cells slots D cA ad A Q C F b4 hL (wfS_c hz (wfS_t hS2.2)) ls H1 locs1 hlv ⟨b1, D_wsO u hH.2.1, hS1⟩
theorem Runs.callVv {n index o ci : Nat} {as : List AV} {q : vw_C} (hd : decode m.2.1 pc = .ok (.invokevirtual index, 3)) (hy : okC y n) (hi : Cond.instanceMethod y.1 ∈ TB) (hs : Cond.selects y.1.cls y.1 y.1 ∈ TB) (hl : ML m.1.cls index y.1) (hn : as.length = n) (hrm : okRm m y) (hst : wds st ≤ 8) (hw : wds (vr o :: as) ≤ y.2.2.1) (hk : kd o = some (.inl ci)) (hc : vwCl[ci]? = some q) (hq : q.1 = y.1.cls) (hr : y.2.2.2.1 = none)
    (hC : Call X y (vr o :: as) M P') (kk : ∀ (M1 : Mem), P' none M1 → Runs X m (pc + 3) loc st M1 P) : Runs X m pc loc (as.reverse ++ vr o :: st) M P := by
  intro p l e R s mid args below meth c cells slots D cA ad A Q C F hM hL hS ls H locs hlv hH
  have hS2 := wfS_r (as := as) (rest := vr o :: st) hS
  refine va_callv (runV C (met_v hC hy.1 hw (wfS_c trivial hS2.1) hM hr) hy hi hs hl hn hrm hst hk hc hq hd hlv hH) hH.2.2 (fun q _ h => free_A hH C.2.2.2.2.2.2.2.1 q h) (free_A hH C.2.2.2.2.2.2.2.1) (fun u t H1 locs1 ht hvm hpost hB hz1 hk1 hS1 => ?_)
  obtain ⟨b1, b2, b3, b4⟩ := hB
  rw [ht] at b1
  exact kk u hpost p l e R s mid args below meth c cells slots D cA ad A Q C F b4 hL (wfS_t hS2.2) ls H1 locs1 hlv ⟨b1, D_wsO u hH.2.1, hS1⟩
theorem Runs.callSi {n index : Nat} {as : List AV} (hd : decode m.2.1 pc = .ok (.invokestatic index, 3)) (hy : okC y n) (hi : Cond.static y.1 ∈ TB) (hl : ML m.1.cls index y.1) (hn : as.length = n) (hrm : okRm m y) (hst : wds st ≤ 8) (hw : wds as ≤ y.2.2.1) (hr : y.2.2.2.1 = some .int ∨ y.2.2.2.1 = some .boolean)
    (hC : Call X y as M P') (kk : ∀ (z : Int) (M1 : Mem), P' (some (vi z)) M1 → Runs X m (pc + 3) loc (vi z :: st) M1 P) : Runs X m pc loc (as.reverse ++ st) M P := by
  intro p l e R s mid args below meth c cells slots D cA ad A Q C F hM hL hS ls H locs hlv hH
  have hS2 := wfS_r (as := as) (rest := st) hS
  refine va_calli (runS C (met_i hC hy.1 hw hS2.1 hM hr) hy hi hl hn hrm hst hd hlv hH) hH.2.2 (fun q _ h => free_A hH C.2.2.2.2.2.2.2.1 q h) (free_A hH C.2.2.2.2.2.2.2.1) (fun r u t H1 locs1 ht hvm hpost hB hz1 hk1 hS1 => ?_)
  obtain ⟨z, rfl, hz, hP'⟩ := hpost
  obtain ⟨b1, b2, b3, b4⟩ := hB
  rw [ht] at b1
  exact kk z u hP' p l e R s mid args below meth c cells slots D cA ad A Q C F b4 hL (wfS_c hz hS2.2) ls H1 locs1 hlv ⟨b1, D_wsO u hH.2.1, hS1⟩
theorem Runs.callSl {n index : Nat} {as : List AV} (hd : decode m.2.1 pc = .ok (.invokestatic index, 3)) (hy : okC y n) (hi : Cond.static y.1 ∈ TB) (hl : ML m.1.cls index y.1) (hn : as.length = n) (hrm : okRm m y) (hst : wds st ≤ 8) (hw : wds as ≤ y.2.2.1) (hr : y.2.2.2.1 = some .long)
    (hC : Call X y as M P') (kk : ∀ (z : Int) (M1 : Mem), P' (some (vl z)) M1 → Runs X m (pc + 3) loc (vl z :: st) M1 P) : Runs X m pc loc (as.reverse ++ st) M P := by
  intro p l e R s mid args below meth c cells slots D cA ad A Q C F hM hL hS ls H locs hlv hH
  have hS2 := wfS_r (as := as) (rest := st) hS
  refine va_calll (runS C (met_l hC hy.1 hw hS2.1 hM hr) hy hi hl hn hrm hst hd hlv hH) hH.2.2 (fun q _ h => free_A hH C.2.2.2.2.2.2.2.1 q h) (free_A hH C.2.2.2.2.2.2.2.1) (fun r u t H1 locs1 ht hvm hpost hB hz1 hk1 hS1 => ?_)
  obtain ⟨z, rfl, hz, hP'⟩ := hpost
  obtain ⟨b1, b2, b3, b4⟩ := hB
  rw [ht] at b1
  exact kk z u hP' p l e R s mid args below meth c cells slots D cA ad A Q C F b4 hL (wfS_c hz hS2.2) ls H1 locs1 hlv ⟨b1, D_wsO u hH.2.1, hS1⟩
theorem Runs.callSv {n index : Nat} {as : List AV} (hd : decode m.2.1 pc = .ok (.invokestatic index, 3)) (hy : okC y n) (hi : Cond.static y.1 ∈ TB) (hl : ML m.1.cls index y.1) (hn : as.length = n) (hrm : okRm m y) (hst : wds st ≤ 8) (hw : wds as ≤ y.2.2.1) (hr : y.2.2.2.1 = none)
    (hC : Call X y as M P') (kk : ∀ (M1 : Mem), P' none M1 → Runs X m (pc + 3) loc st M1 P) : Runs X m pc loc (as.reverse ++ st) M P := by
  intro p l e R s mid args below meth c cells slots D cA ad A Q C F hM hL hS ls H locs hlv hH
  have hS2 := wfS_r (as := as) (rest := st) hS
  refine va_callv (runS C (met_v hC hy.1 hw hS2.1 hM hr) hy hi hl hn hrm hst hd hlv hH) hH.2.2 (fun q _ h => free_A hH C.2.2.2.2.2.2.2.1 q h) (free_A hH C.2.2.2.2.2.2.2.1) (fun u t H1 locs1 ht hvm hpost hB hz1 hk1 hS1 => ?_)
  obtain ⟨b1, b2, b3, b4⟩ := hB
  rw [ht] at b1
  exact kk u hpost p l e R s mid args below meth c cells slots D cA ad A Q C F b4 hL hS2.2 ls H1 locs1 hlv ⟨b1, D_wsO u hH.2.1, hS1⟩
end CC
end
section
/-! ===== the JDK's own, the script ===== -/
section RX
variable {X : Scr} {m : MR} {pc : Nat} {loc : List (Nat × AV)} {st : List AV} {M : Mem} {P : Option AV → Mem → Prop}
theorem Runs.mmax {a b : Int} {index : Nat} (hd : decode m.2.1 pc = .ok (.invokestatic index, 3)) (hl : Cond.methodLink m.1.cls index Lib.Math.max.name ∈ TB) (hw : Cond.static Lib.Math.max.name ∈ TB ∧ Cond.initialized "java/lang/Math" ∈ TB ∧ Cond.code Lib.Math.max.name Lib.Math.max.code 2 (some .int) ∈ TB) (hf : 1 ≤ m.2.2.2.2.1 ∧ wds st + 13 ≤ m.2.2.2.2.2) (kk : Runs X m (pc + 3) loc (vi (max a b) :: st) M P) : Runs X m pc loc (vi b :: vi a :: st) M P := by
  refine Runs.lift (fun p l e R s mid args below meth c cells slots D cA ad A Q C w => ?_) kk
  intro hM hL hS ls H locs hlv hH
  obtain ⟨hx, hb, hml, hown, hts, hN, hK, hA, hR, hcs, -⟩ := C
  have hbi : inI b := wfS_h hS
  have hai : inI a := wfS_h (wfS_t hS)
  have k := w hM hL (wfS_c (v := vi (max a b)) (show inI (max a b) by unfold inI; omega) (wfS_t (wfS_t hS))) ls H locs hlv hH
  refine va_mmax hx hb (by rw [hml]; exact hlv.1.symm) (own := m.1.cls) hown (hts _ hl) (hts _ hw.1) (hts _ hw.2.1) (hts _ hw.2.2) (Nat.le_trans hf.1 hR.1) (by rw [cat_sum]; exact Nat.le_trans hf.2 hR.2) hcs.1 hcs.2 hd ?_
  have e : (if Int32.ofInt a < Int32.ofInt b then Int32.ofInt b else Int32.ofInt a) = Int32.ofInt (max a b) := by
    simp only [i32_lt hai hbi]
    split
    · congr 1; omega
    · congr 1; omega
  rw [e]; exact k
theorem Runs.mmin {a b : Int} {index : Nat} (hd : decode m.2.1 pc = .ok (.invokestatic index, 3)) (hl : Cond.methodLink m.1.cls index Lib.Math.min.name ∈ TB) (hw : Cond.static Lib.Math.min.name ∈ TB ∧ Cond.initialized "java/lang/Math" ∈ TB ∧ Cond.code Lib.Math.min.name Lib.Math.min.code 2 (some .int) ∈ TB) (hf : 1 ≤ m.2.2.2.2.1 ∧ wds st + 13 ≤ m.2.2.2.2.2) (kk : Runs X m (pc + 3) loc (vi (min a b) :: st) M P) : Runs X m pc loc (vi b :: vi a :: st) M P := by
  refine Runs.lift (fun p l e R s mid args below meth c cells slots D cA ad A Q C w => ?_) kk
  intro hM hL hS ls H locs hlv hH
  obtain ⟨hx, hb, hml, hown, hts, hN, hK, hA, hR, hcs, -⟩ := C
  have hbi : inI b := wfS_h hS
  have hai : inI a := wfS_h (wfS_t hS)
  have k := w hM hL (wfS_c (v := vi (min a b)) (show inI (min a b) by unfold inI; omega) (wfS_t (wfS_t hS))) ls H locs hlv hH
  refine va_mmin hx hb (by rw [hml]; exact hlv.1.symm) (own := m.1.cls) hown (hts _ hl) (hts _ hw.1) (hts _ hw.2.1) (hts _ hw.2.2) (Nat.le_trans hf.1 hR.1) (by rw [cat_sum]; exact Nat.le_trans hf.2 hR.2) hcs.1 hcs.2 hd ?_
  have e : (if Int32.ofInt b < Int32.ofInt a then Int32.ofInt b else Int32.ofInt a) = Int32.ofInt (min a b) := by
    simp only [i32_lt hbi hai]
    split
    · congr 1; omega
    · congr 1; omega
  rw [e]; exact k
/-- n places of the array o1 from sp on, written into the array o2 from dp on -/
def cpyM (M : Mem) (o1 sp o2 dp n : Nat) : Mem := fun o j => if o = o2 ∧ dp ≤ j ∧ j < dp + n then M o1 (sp + (j - dp)) else M o j
theorem cpyM_ne {M : Mem} {o1 sp o2 dp n : Nat} : ∀ o, o ≠ o2 → ∀ j, cpyM M o1 sp o2 dp n o j = M o j := fun o h j => by simp [cpyM, h]
theorem Runs.acopy {o1 o2 n1 n2 : Nat} {sp dp n : Int} {index : Nat} (hd : decode m.2.1 pc = .ok (.invokestatic index, 3)) (hl : Cond.methodLink m.1.cls index arraycopyName ∈ TB) (hw : Cond.native arraycopyName ∈ TB ∧ Cond.static arraycopyName ∈ TB ∧ Cond.initialized "java/lang/System" ∈ TB) (hf : 1 ≤ m.2.2.2.2.1 ∧ wds st + (nativeFrameWords "java/lang/System" "arraycopy" 5 + 11) ≤ m.2.2.2.2.2) (hk1 : kd o1 = some (.inr (.int, n1))) (hk2 : kd o2 = some (.inr (.int, n2))) (h1 : 0 ≤ sp) (h2 : 0 ≤ dp) (h3 : 0 ≤ n) (h4 : sp + n ≤ n1) (h5 : dp + n ≤ n2)
    (kk : Runs X m (pc + 3) loc st (cpyM M o1 sp.toNat o2 dp.toNat n.toNat) P) : Runs X m pc loc (vi n :: vi dp :: vr o2 :: vi sp :: vr o1 :: st) M P := by
  refine Runs.lift (fun p l e R s mid args below meth c cells slots D cA ad A Q C w => ?_) kk
  intro hM hL hS ls H locs hlv hH
  obtain ⟨hx, hb, hml, hown, hts, hN, hK, hA, hR, hcs, -⟩ := C
  have hni : inI n := wfS_h hS
  have hdi : inI dp := wfS_h (wfS_t hS)
  have hsi : inI sp := wfS_h (wfS_t (wfS_t (wfS_t hS)))
  have hrest : wfS st := wfS_t (wfS_t (wfS_t (wfS_t (wfS_t hS))))
  obtain ⟨q1, hq1⟩ := at_CO hk1
  have he1 := at_wsO (cA := cA) (ad := ad) (M := M) hq1
  rw [ent_a hk1, arP_i (Or.inl rfl)] at he1
  obtain ⟨q2, hq2⟩ := at_CO hk2
  have he2 := at_wsO (cA := cA) (ad := ad) (M := M) hq2
  rw [ent_a hk2, arP_i (Or.inl rfl)] at he2
  obtain ⟨t, ht⟩ := ty_at (cA := cA) (ty := .int) (Or.inr (Or.inl rfl))
  have hneg : ∀ {x : Int}, 0 ≤ x → inI x → ¬ Int32.ofInt x < 0 := fun h hi => by rw [i32_l0 hi]; omega
  refine va_copyi hx hb (by rw [hml]; exact hlv.1.symm) (own := m.1.cls) hown (hts _ hl) (hts _ hw.1) (hts _ hw.2.1) (hts _ hw.2.2) hK hH.1 hH.2.1 hH.2.2 q1 q2 t t he1 he2 ht ht rfl (hneg h1 hsi) (hneg h2 hdi) (hneg h3 hni) (by rw [cl_ix h1 hsi, cl_ix h3 hni]; omega) (by rw [cl_ix h2 hdi, cl_ix h3 hni]; omega) (fun i hi => rfl) (Nat.le_trans hf.1 hR.1) (by rw [cat_sum]; exact Nat.le_trans hf.2 hR.2) hd ?_
  rw [cl_ix h1 hsi, cl_ix h2 hdi, cl_ix h3 hni]
  have e : (Sum.inl (cA .int, n2, .inl (va_cpy (fun j => Int32.ofInt (M o1 j)) (fun j => Int32.ofInt (M o2 j)) sp.toNat dp.toNat n.toNat)) : va_E) = ent cA ad (cpyM M o1 sp.toNat o2 dp.toNat n.toNat) o2 := by
    rw [ent_a hk2, arP_i (Or.inl rfl)]
    congr 4
    funext j
    unfold va_cpy cpyM
    by_cases hj : dp.toNat ≤ j ∧ j < dp.toNat + n.toNat
    · rw [if_pos hj, if_pos ⟨rfl, hj⟩]
    · rw [if_neg hj, if_neg (fun z => hj z.2)]
  rw [e, set_wsO hq2 cpyM_ne]
  intro H1 locs1 hP1 hD1 hS1
  refine w ?_ hL hrest ls H1 locs1 hlv ⟨hP1, hD1, hS1⟩
  intro o j
  unfold cpyM
  split
  next h => rw [h.1, sty_a hk2]; have h9 := hM o1 (sp.toNat + (j - dp.toNat)); rw [sty_a hk1] at h9; exact h9
  next h => exact hM o j
-- ===== the script, in the law
theorem Runs.sld {i : Int} (hm : m.1 = yL_law) (hX : ∀ j, inI (X.2 j)) (hd : decode m.2.1 pc = .ok (.iaload, 1)) (h0 : 0 ≤ i) (h1 : i < X.1) (kk : Runs X m (pc + 1) loc (vi (X.2 i.toNat) :: st) M P) : Runs X m pc loc (vi i :: vr 999 :: st) M P := by
  refine Runs.lift (fun p l e R s mid args below meth c cells slots D cA ad A Q C w => ?_) kk
  intro hM hL hS ls H locs hlv hH
  obtain ⟨hx, hb, hml, hown, hts, hN, hK, hA, hR, hcs, hscr⟩ := C
  obtain ⟨s1, s2, s3⟩ := hscr hm
  have hi0 : inI i := wfS_h hS
  have k := w hM hL (wfS_c (v := vi (X.2 i.toNat)) (hX _) (wfS_t (wfS_t hS))) ls H locs hlv hH
  refine va_sld hx hb s1 s2 s3 hH.2.2 (in_ix h0 h1 hi0) hd ?_
  rw [cl_ix h0 hi0]
  exact k
theorem Runs.slen (hm : m.1 = yL_law) (hX : X.1 < 2147483648) (hd : decode m.2.1 pc = .ok (.arraylength, 1)) (kk : Runs X m (pc + 1) loc (vi (X.1 : Int) :: st) M P) : Runs X m pc loc (vr 999 :: st) M P := by
  refine Runs.lift (fun p l e R s mid args below meth c cells slots D cA ad A Q C w => ?_) kk
  intro hM hL hS ls H locs hlv hH
  obtain ⟨hx, hb, hml, hown, hts, hN, hK, hA, hR, hcs, hscr⟩ := C
  obtain ⟨s1, s2, s3⟩ := hscr hm
  have k := w hM hL (wfS_c (v := vi (X.1 : Int)) (show inI (X.1 : Int) from ⟨by omega, by omega⟩) (wfS_t hS)) ls H locs hlv hH
  refine va_slen hx hb s1 s2 s3 hH.2.2 hd ?_
  rw [← Int32.ofInt_eq_ofNat]
  exact k
end RX
end
section
/-! ===== the numbers of the objects that come in several ===== -/
def oT (t : Nat) : Nat := 100 + 2 * t
def oC (t : Nat) : Nat := 101 + 2 * t
def oR (w : Nat) : Nat := 10 + 3 * w
def oG (w : Nat) : Nat := 11 + 3 * w
def oN (w : Nat) : Nat := 12 + 3 * w
def oB (w : Nat) : Nat := 20 + 2 * w
def oA (w : Nat) : Nat := 21 + 2 * w
def oS (s : Nat) : Nat := 31 + s
theorem kd_oT {t : Nat} (h : t < 27) : kd (oT t) = some (.inl 6) := by unfold kd oT; rw [if_pos (by omega), if_pos (by omega)]
theorem kd_oC {t : Nat} (h : t < 27) : kd (oC t) = some (.inr (.int, 150)) := by unfold kd oC; rw [if_pos (by omega), if_neg (by omega)]
theorem kd_oR {w : Nat} (h : w < 3) : kd (oR w) = some (.inl 3) := by rcases (show w = 0 ∨ w = 1 ∨ w = 2 by omega) with rfl | rfl | rfl <;> rfl
theorem kd_oG {w : Nat} (h : w < 3) : kd (oG w) = some (.inr (.int, 16)) := by rcases (show w = 0 ∨ w = 1 ∨ w = 2 by omega) with rfl | rfl | rfl <;> rfl
theorem kd_oN {w : Nat} (h : w < 3) : kd (oN w) = some (.inr (.int, 16)) := by rcases (show w = 0 ∨ w = 1 ∨ w = 2 by omega) with rfl | rfl | rfl <;> rfl
theorem kd_oB {w : Nat} (h : w < 3) : kd (oB w) = some (.inl 0) := by rcases (show w = 0 ∨ w = 1 ∨ w = 2 by omega) with rfl | rfl | rfl <;> rfl
theorem kd_oA {w : Nat} (h : w < 3) : kd (oA w) = some (.inr (tyT, 8)) := by rcases (show w = 0 ∨ w = 1 ∨ w = 2 by omega) with rfl | rfl | rfl <;> rfl
theorem kd_oS {s : Nat} (h : s < 2) : kd (oS s) = some (.inl 5) := by rcases (show s = 0 ∨ s = 1 by omega) with rfl | rfl <;> rfl
theorem rf_oC {t : Nat} (h : t < 27) : rfs (oT t) 0 = some (oC t) := by
  unfold rfs oT oC
  rw [if_pos (by omega), if_pos ⟨by omega, rfl⟩]
  congr 1
  omega
theorem rf_oG {w : Nat} (h : w < 3) : rfs (oR w) 0 = some (oG w) := by rcases (show w = 0 ∨ w = 1 ∨ w = 2 by omega) with rfl | rfl | rfl <;> rfl
theorem rf_oN {w : Nat} (h : w < 3) : rfs (oR w) 1 = some (oN w) := by rcases (show w = 0 ∨ w = 1 ∨ w = 2 by omega) with rfl | rfl | rfl <;> rfl
theorem rf_oA {w : Nat} (h : w < 3) : rfs (oB w) 0 = some (oA w) := by rcases (show w = 0 ∨ w = 1 ∨ w = 2 by omega) with rfl | rfl | rfl <;> rfl
theorem rf_ah {w j : Nat} (h : w < 3) (hj : j < 8) : rfs (oA w) j = some (oT (9 * w + 1 + j)) := by
  rcases (show w = 0 ∨ w = 1 ∨ w = 2 by omega) with rfl | rfl | rfl <;>
    rcases (show j = 0 ∨ j = 1 ∨ j = 2 ∨ j = 3 ∨ j = 4 ∨ j = 5 ∨ j = 6 ∨ j = 7 by omega) with rfl | rfl | rfl | rfl | rfl | rfl | rfl | rfl <;> rfl
theorem rf_sl {j : Nat} (h : j < 2) : rfs 30 j = some (oS j) := by rcases (show j = 0 ∨ j = 1 by omega) with rfl | rfl <;> rfl
theorem rf_oS0 {s : Nat} (h : s < 2) : rfs (oS s) 0 = some (oT (9 * (s + 1))) := by rcases (show s = 0 ∨ s = 1 by omega) with rfl | rfl <;> rfl
theorem rf_oS1 {s : Nat} (h : s < 2) : rfs (oS s) 1 = some (oB (s + 1)) := by rcases (show s = 0 ∨ s = 1 by omega) with rfl | rfl <;> rfl
theorem rf_oS2 {s : Nat} (h : s < 2) : rfs (oS s) 2 = some (oR (s + 1)) := by rcases (show s = 0 ∨ s = 1 by omega) with rfl | rfl <;> rfl
theorem Runs.picks {X : Scr} {m : MR} {pc : Nat} {loc loc' : List (Nat × AV)} {st : List AV} {M : Mem} {P : Option AV → Mem → Prop} (ks : List Nat) (h : ks.filterMap (fun i => loc[i]?) = loc') (k : Runs X m pc loc' st M P) : Runs X m pc loc st M P := by
  refine Runs.pick (fun q hq => ?_) k
  subst h
  obtain ⟨i, -, hi⟩ := List.mem_filterMap.mp hq
  exact List.mem_of_getElem? hi
end
section
/-! ===== printed by program: method records, links ===== -/
theorem w1_1 : (Jvm.Cond.initialized "TeethForCoins") ∈ TB := tb_t (tl_1 1 rfl) rfl
theorem w1_2 : (Jvm.Cond.initialized "TeethForCoins$Text") ∈ TB := tb_t (tl_1 2 rfl) rfl
theorem w1_3 : (Jvm.Cond.initialized "TeethForCoins$Teeth") ∈ TB := tb_t (tl_1 3 rfl) rfl
theorem w1_4 : (Jvm.Cond.initialized "TeethForCoins$Goods") ∈ TB := tb_t (tl_1 4 rfl) rfl
theorem w1_5 : (Jvm.Cond.initialized "TeethForCoins$Bargains") ∈ TB := tb_t (tl_1 5 rfl) rfl
theorem w1_6 : (Jvm.Cond.initialized "TeethForCoins$Rates") ∈ TB := tb_t (tl_1 6 rfl) rfl
theorem w1_7 : (Jvm.Cond.initialized "java/util/Arrays") ∈ TB := tb_t (tl_1 7 rfl) rfl
theorem w1_8 : (Jvm.Cond.initialized "TeethForCoins$Least") ∈ TB := tb_t (tl_1 8 rfl) rfl
theorem w1_9 : (Jvm.Cond.initialized "TeethForCoins$Ring") ∈ TB := tb_t (tl_1 9 rfl) rfl
theorem w1_10 : (Jvm.Cond.initialized "TeethForCoins$Slot") ∈ TB := tb_t (tl_1 10 rfl) rfl
theorem w1_11 : (Jvm.Cond.initialized "TeethForCoinsModel") ∈ TB := tb_t (tl_1 11 rfl) rfl
theorem w1_12 : (Jvm.Cond.initialized "java/lang/Math") ∈ TB := tb_t (tl_1 12 rfl) rfl
theorem w1_13 : (Jvm.Cond.initialized "java/lang/Integer") ∈ TB := tb_t (tl_1 13 rfl) rfl
theorem w1_14 : (Jvm.Cond.initialized "java/lang/System") ∈ TB := tb_t (tl_1 14 rfl) rfl
theorem w1_29 : (Jvm.Cond.fieldLink "TeethForCoins$Text" (9 : Nat) "TeethForCoins$Text" "bytes" "[B") ∈ TB := tb_t (tl_1 29 rfl) rfl
theorem w1_30 : (Jvm.Cond.fieldLink "TeethForCoins$Text" (15 : Nat) "TeethForCoins$Text" "length" "I") ∈ TB := tb_t (tl_1 30 rfl) rfl
theorem w1_32 : (Jvm.Cond.laysFinal "TeethForCoins$Text" "TeethForCoins$Text" "bytes" "[B") ∈ TB := tb_t (tl_1 32 rfl) rfl
theorem w1_34 : (Jvm.Cond.lays "TeethForCoins$Text" "TeethForCoins$Text" "length" "I") ∈ TB := tb_t (tl_1 34 rfl) rfl
theorem w1_44 : (Jvm.Cond.fieldLink "TeethForCoins$Teeth" (11 : Nat) "TeethForCoins$Teeth" "cells" "[I") ∈ TB := tb_t (tl_1 44 rfl) rfl
theorem w1_45 : (Jvm.Cond.fieldLink "TeethForCoins$Teeth" (15 : Nat) "TeethForCoins$Teeth" "count" "I") ∈ TB := tb_t (tl_1 45 rfl) rfl
theorem w1_47 : (Jvm.Cond.laysFinal "TeethForCoins$Teeth" "TeethForCoins$Teeth" "cells" "[I") ∈ TB := tb_t (tl_1 47 rfl) rfl
theorem w1_49 : (Jvm.Cond.lays "TeethForCoins$Teeth" "TeethForCoins$Teeth" "count" "I") ∈ TB := tb_t (tl_1 49 rfl) rfl
theorem w1_59 : (Jvm.Cond.fieldLink "TeethForCoins$Goods" (9 : Nat) "TeethForCoins$Goods" "prices" "[I") ∈ TB := tb_t (tl_1 59 rfl) rfl
theorem w1_60 : (Jvm.Cond.fieldLink "TeethForCoins$Goods" (15 : Nat) "TeethForCoins$Goods" "uses" "[I") ∈ TB := tb_t (tl_1 60 rfl) rfl
theorem w1_61 : (Jvm.Cond.fieldLink "TeethForCoins$Goods" (18 : Nat) "TeethForCoins$Goods" "count" "I") ∈ TB := tb_t (tl_1 61 rfl) rfl
theorem w1_63 : (Jvm.Cond.laysFinal "TeethForCoins$Goods" "TeethForCoins$Goods" "prices" "[I") ∈ TB := tb_t (tl_1 63 rfl) rfl
theorem w1_65 : (Jvm.Cond.laysFinal "TeethForCoins$Goods" "TeethForCoins$Goods" "uses" "[I") ∈ TB := tb_t (tl_1 65 rfl) rfl
theorem w1_67 : (Jvm.Cond.lays "TeethForCoins$Goods" "TeethForCoins$Goods" "count" "I") ∈ TB := tb_t (tl_1 67 rfl) rfl
theorem w1_79 : (Jvm.Cond.fieldLink "TeethForCoins$Bargains" (11 : Nat) "TeethForCoins$Bargains" "ahead" "[LTeethForCoins$Teeth;") ∈ TB := tb_t (tl_1 79 rfl) rfl
theorem w1_80 : (Jvm.Cond.fieldLink "TeethForCoins$Bargains" (17 : Nat) "TeethForCoins$Bargains" "made" "I") ∈ TB := tb_t (tl_1 80 rfl) rfl
theorem w1_82 : (Jvm.Cond.laysFinal "TeethForCoins$Bargains" "TeethForCoins$Bargains" "ahead" "[LTeethForCoins$Teeth;") ∈ TB := tb_t (tl_1 82 rfl) rfl
theorem w1_84 : (Jvm.Cond.lays "TeethForCoins$Bargains" "TeethForCoins$Bargains" "made" "I") ∈ TB := tb_t (tl_1 84 rfl) rfl
theorem w1_93 : (Jvm.Cond.methodLink "TeethForCoins$Rates" (18 : Nat) ({ cls := "java/util/Arrays", name := "fill", desc := "([II)V" } : Jvm.MethodName)) ∈ TB := tb_t (tl_1 93 rfl) rfl
theorem w1_94 : (Jvm.Cond.static ({ cls := "java/util/Arrays", name := "fill", desc := "([II)V" } : Jvm.MethodName)) ∈ TB := tb_t (tl_1 94 rfl) rfl
theorem w1_95 : (Jvm.Cond.code ({ cls := "java/util/Arrays", name := "fill", desc := "([II)V" } : Jvm.MethodName) prog_15_method_103_code (4 : Nat) (Option.none : Option Jvm.ClassFile.FieldType)) ∈ TB := tb_t (tl_1 95 rfl) rfl
theorem w1_96 : (Jvm.Cond.fieldLink "TeethForCoins$Rates" (9 : Nat) "TeethForCoins$Rates" "got" "[I") ∈ TB := tb_t (tl_1 96 rfl) rfl
theorem w1_97 : (Jvm.Cond.fieldLink "TeethForCoins$Rates" (15 : Nat) "TeethForCoins$Rates" "given" "[I") ∈ TB := tb_t (tl_1 97 rfl) rfl
theorem w1_98 : (Jvm.Cond.laysFinal "TeethForCoins$Rates" "TeethForCoins$Rates" "got" "[I") ∈ TB := tb_t (tl_1 98 rfl) rfl
theorem w1_100 : (Jvm.Cond.laysFinal "TeethForCoins$Rates" "TeethForCoins$Rates" "given" "[I") ∈ TB := tb_t (tl_1 100 rfl) rfl
theorem w1_111 : (Jvm.Cond.fieldLink "TeethForCoins$Least" (7 : Nat) "TeethForCoins$Least" "found" "Z") ∈ TB := tb_t (tl_1 111 rfl) rfl
theorem w1_113 : (Jvm.Cond.fieldLink "TeethForCoins$Least" (13 : Nat) "TeethForCoins$Least" "first" "I") ∈ TB := tb_t (tl_1 113 rfl) rfl
theorem w1_115 : (Jvm.Cond.fieldLink "TeethForCoins$Least" (17 : Nat) "TeethForCoins$Least" "second" "I") ∈ TB := tb_t (tl_1 115 rfl) rfl
theorem w1_117 : (Jvm.Cond.fieldLink "TeethForCoins$Least" (20 : Nat) "TeethForCoins$Least" "third" "I") ∈ TB := tb_t (tl_1 117 rfl) rfl
theorem w1_119 : (Jvm.Cond.lays "TeethForCoins$Least" "TeethForCoins$Least" "found" "Z") ∈ TB := tb_t (tl_1 119 rfl) rfl
theorem w1_121 : (Jvm.Cond.lays "TeethForCoins$Least" "TeethForCoins$Least" "first" "I") ∈ TB := tb_t (tl_1 121 rfl) rfl
theorem w1_123 : (Jvm.Cond.lays "TeethForCoins$Least" "TeethForCoins$Least" "second" "I") ∈ TB := tb_t (tl_1 123 rfl) rfl
theorem w1_125 : (Jvm.Cond.lays "TeethForCoins$Least" "TeethForCoins$Least" "third" "I") ∈ TB := tb_t (tl_1 125 rfl) rfl
theorem w1_134 : (Jvm.Cond.fieldLink "TeethForCoins$Ring" (7 : Nat) "TeethForCoins$Ring" "code" "I") ∈ TB := tb_t (tl_1 134 rfl) rfl
theorem w1_136 : (Jvm.Cond.fieldLink "TeethForCoins$Ring" (13 : Nat) "TeethForCoins$Ring" "many" "I") ∈ TB := tb_t (tl_1 136 rfl) rfl
theorem w1_138 : (Jvm.Cond.fieldLink "TeethForCoins$Ring" (16 : Nat) "TeethForCoins$Ring" "got" "J") ∈ TB := tb_t (tl_1 138 rfl) rfl
theorem w1_140 : (Jvm.Cond.fieldLink "TeethForCoins$Ring" (20 : Nat) "TeethForCoins$Ring" "given" "J") ∈ TB := tb_t (tl_1 140 rfl) rfl
theorem w1_142 : (Jvm.Cond.lays "TeethForCoins$Ring" "TeethForCoins$Ring" "code" "I") ∈ TB := tb_t (tl_1 142 rfl) rfl
theorem w1_144 : (Jvm.Cond.lays "TeethForCoins$Ring" "TeethForCoins$Ring" "many" "I") ∈ TB := tb_t (tl_1 144 rfl) rfl
theorem w1_146 : (Jvm.Cond.lays "TeethForCoins$Ring" "TeethForCoins$Ring" "got" "J") ∈ TB := tb_t (tl_1 146 rfl) rfl
theorem w1_148 : (Jvm.Cond.lays "TeethForCoins$Ring" "TeethForCoins$Ring" "given" "J") ∈ TB := tb_t (tl_1 148 rfl) rfl
theorem w1_162 : (Jvm.Cond.fieldLink "TeethForCoins$Slot" (10 : Nat) "TeethForCoins$Slot" "teeth" "LTeethForCoins$Teeth;") ∈ TB := tb_t (tl_1 162 rfl) rfl
theorem w1_163 : (Jvm.Cond.fieldLink "TeethForCoins$Slot" (19 : Nat) "TeethForCoins$Slot" "bargains" "LTeethForCoins$Bargains;") ∈ TB := tb_t (tl_1 163 rfl) rfl
theorem w1_164 : (Jvm.Cond.fieldLink "TeethForCoins$Slot" (26 : Nat) "TeethForCoins$Slot" "rates" "LTeethForCoins$Rates;") ∈ TB := tb_t (tl_1 164 rfl) rfl
theorem w1_165 : (Jvm.Cond.fieldLink "TeethForCoins$Slot" (30 : Nat) "TeethForCoins$Slot" "full" "Z") ∈ TB := tb_t (tl_1 165 rfl) rfl
theorem w1_167 : (Jvm.Cond.laysFinal "TeethForCoins$Slot" "TeethForCoins$Slot" "teeth" "LTeethForCoins$Teeth;") ∈ TB := tb_t (tl_1 167 rfl) rfl
theorem w1_169 : (Jvm.Cond.laysFinal "TeethForCoins$Slot" "TeethForCoins$Slot" "bargains" "LTeethForCoins$Bargains;") ∈ TB := tb_t (tl_1 169 rfl) rfl
theorem w1_171 : (Jvm.Cond.laysFinal "TeethForCoins$Slot" "TeethForCoins$Slot" "rates" "LTeethForCoins$Rates;") ∈ TB := tb_t (tl_1 171 rfl) rfl
theorem w1_173 : (Jvm.Cond.lays "TeethForCoins$Slot" "TeethForCoins$Slot" "full" "Z") ∈ TB := tb_t (tl_1 173 rfl) rfl
theorem w1_176 : (Jvm.Cond.fieldLink "TeethForCoins" (10 : Nat) "TeethForCoins" "text" "LTeethForCoins$Text;") ∈ TB := tb_t (tl_1 176 rfl) rfl
theorem w1_177 : (Jvm.Cond.fieldLink "TeethForCoins" (19 : Nat) "TeethForCoins" "teeth" "LTeethForCoins$Teeth;") ∈ TB := tb_t (tl_1 177 rfl) rfl
theorem w1_178 : (Jvm.Cond.fieldLink "TeethForCoins" (26 : Nat) "TeethForCoins" "goods" "LTeethForCoins$Goods;") ∈ TB := tb_t (tl_1 178 rfl) rfl
theorem w1_179 : (Jvm.Cond.fieldLink "TeethForCoins" (33 : Nat) "TeethForCoins" "bargains" "LTeethForCoins$Bargains;") ∈ TB := tb_t (tl_1 179 rfl) rfl
theorem w1_180 : (Jvm.Cond.fieldLink "TeethForCoins" (40 : Nat) "TeethForCoins" "rates" "LTeethForCoins$Rates;") ∈ TB := tb_t (tl_1 180 rfl) rfl
theorem w1_181 : (Jvm.Cond.fieldLink "TeethForCoins" (46 : Nat) "TeethForCoins" "slots" "[LTeethForCoins$Slot;") ∈ TB := tb_t (tl_1 181 rfl) rfl
theorem w1_182 : (Jvm.Cond.fieldLink "TeethForCoins" (50 : Nat) "TeethForCoins" "lossByWear" "I") ∈ TB := tb_t (tl_1 182 rfl) rfl
theorem w1_183 : (Jvm.Cond.fieldLink "TeethForCoins" (54 : Nat) "TeethForCoins" "timesOfLeft" "I") ∈ TB := tb_t (tl_1 183 rfl) rfl
theorem w1_184 : (Jvm.Cond.fieldLink "TeethForCoins" (60 : Nat) "TeethForCoins" "least" "LTeethForCoins$Least;") ∈ TB := tb_t (tl_1 184 rfl) rfl
theorem w1_185 : (Jvm.Cond.fieldLink "TeethForCoins" (67 : Nat) "TeethForCoins" "best" "LTeethForCoins$Ring;") ∈ TB := tb_t (tl_1 185 rfl) rfl
theorem w1_186 : (Jvm.Cond.fieldLink "TeethForCoins" (71 : Nat) "TeethForCoins" "balances" "[I") ∈ TB := tb_t (tl_1 186 rfl) rfl
theorem w1_187 : (Jvm.Cond.fieldLink "TeethForCoins" (75 : Nat) "TeethForCoins" "payable" "[I") ∈ TB := tb_t (tl_1 187 rfl) rfl
theorem w1_188 : (Jvm.Cond.laysFinal "TeethForCoins" "TeethForCoins" "text" "LTeethForCoins$Text;") ∈ TB := tb_t (tl_1 188 rfl) rfl
theorem w1_190 : (Jvm.Cond.laysFinal "TeethForCoins" "TeethForCoins" "teeth" "LTeethForCoins$Teeth;") ∈ TB := tb_t (tl_1 190 rfl) rfl
theorem w1_192 : (Jvm.Cond.laysFinal "TeethForCoins" "TeethForCoins" "goods" "LTeethForCoins$Goods;") ∈ TB := tb_t (tl_1 192 rfl) rfl
theorem w1_194 : (Jvm.Cond.laysFinal "TeethForCoins" "TeethForCoins" "bargains" "LTeethForCoins$Bargains;") ∈ TB := tb_t (tl_1 194 rfl) rfl
theorem w1_196 : (Jvm.Cond.laysFinal "TeethForCoins" "TeethForCoins" "rates" "LTeethForCoins$Rates;") ∈ TB := tb_t (tl_1 196 rfl) rfl
theorem w1_198 : (Jvm.Cond.laysFinal "TeethForCoins" "TeethForCoins" "slots" "[LTeethForCoins$Slot;") ∈ TB := tb_t (tl_1 198 rfl) rfl
theorem w1_200 : (Jvm.Cond.lays "TeethForCoins" "TeethForCoins" "lossByWear" "I") ∈ TB := tb_t (tl_1 200 rfl) rfl
theorem w1_202 : (Jvm.Cond.lays "TeethForCoins" "TeethForCoins" "timesOfLeft" "I") ∈ TB := tb_t (tl_1 202 rfl) rfl
theorem w1_204 : (Jvm.Cond.laysFinal "TeethForCoins" "TeethForCoins" "least" "LTeethForCoins$Least;") ∈ TB := tb_t (tl_1 204 rfl) rfl
theorem w1_206 : (Jvm.Cond.laysFinal "TeethForCoins" "TeethForCoins" "best" "LTeethForCoins$Ring;") ∈ TB := tb_t (tl_1 206 rfl) rfl
theorem w1_208 : (Jvm.Cond.laysFinal "TeethForCoins" "TeethForCoins" "balances" "[I") ∈ TB := tb_t (tl_1 208 rfl) rfl
theorem w1_210 : (Jvm.Cond.laysFinal "TeethForCoins" "TeethForCoins" "payable" "[I") ∈ TB := tb_t (tl_1 210 rfl) rfl
theorem w1_213 : (Jvm.Cond.methodLink "TeethForCoinsLaw" (15 : Nat) ({ cls := "TeethForCoins", name := "write", desc := "(IJ)I" } : Jvm.MethodName)) ∈ TB := tb_t (tl_1 213 rfl) rfl
theorem w1_214 : (Jvm.Cond.instanceMethod ({ cls := "TeethForCoins", name := "write", desc := "(IJ)I" } : Jvm.MethodName)) ∈ TB := tb_t (tl_1 214 rfl) rfl
theorem w1_215 : (Jvm.Cond.selects "TeethForCoins" ({ cls := "TeethForCoins", name := "write", desc := "(IJ)I" } : Jvm.MethodName) ({ cls := "TeethForCoins", name := "write", desc := "(IJ)I" } : Jvm.MethodName)) ∈ TB := tb_t (tl_1 215 rfl) rfl
theorem w1_216 : (Jvm.Cond.code ({ cls := "TeethForCoins", name := "write", desc := "(IJ)I" } : Jvm.MethodName) prog_1_method_2_code (5 : Nat) (Option.some Jvm.ClassFile.FieldType.int)) ∈ TB := tb_t (tl_1 216 rfl) rfl
theorem w1_219 : (Jvm.Cond.instanceMethod ({ cls := "TeethForCoins$Text", name := "append", desc := "(B)V" } : Jvm.MethodName)) ∈ TB := tb_t (tl_1 219 rfl) rfl
theorem w1_220 : (Jvm.Cond.code ({ cls := "TeethForCoins$Text", name := "append", desc := "(B)V" } : Jvm.MethodName) prog_9_method_2_code (2 : Nat) (Option.none : Option Jvm.ClassFile.FieldType)) ∈ TB := tb_t (tl_1 220 rfl) rfl
theorem w1_221 : (Jvm.Cond.methodLink "TeethForCoinsLaw" (20 : Nat) ({ cls := "TeethForCoins", name := "wipe", desc := "()I" } : Jvm.MethodName)) ∈ TB := tb_t (tl_1 221 rfl) rfl
theorem w1_222 : (Jvm.Cond.instanceMethod ({ cls := "TeethForCoins", name := "wipe", desc := "()I" } : Jvm.MethodName)) ∈ TB := tb_t (tl_1 222 rfl) rfl
theorem w1_223 : (Jvm.Cond.selects "TeethForCoins" ({ cls := "TeethForCoins", name := "wipe", desc := "()I" } : Jvm.MethodName) ({ cls := "TeethForCoins", name := "wipe", desc := "()I" } : Jvm.MethodName)) ∈ TB := tb_t (tl_1 223 rfl) rfl
theorem w1_224 : (Jvm.Cond.code ({ cls := "TeethForCoins", name := "wipe", desc := "()I" } : Jvm.MethodName) prog_1_method_3_code (2 : Nat) (Option.some Jvm.ClassFile.FieldType.int)) ∈ TB := tb_t (tl_1 224 rfl) rfl
theorem w1_225 : (Jvm.Cond.methodLink "TeethForCoinsLaw" (25 : Nat) ({ cls := "TeethForCoins", name := "fault", desc := "()I" } : Jvm.MethodName)) ∈ TB := tb_t (tl_1 225 rfl) rfl
theorem w1_226 : (Jvm.Cond.instanceMethod ({ cls := "TeethForCoins", name := "fault", desc := "()I" } : Jvm.MethodName)) ∈ TB := tb_t (tl_1 226 rfl) rfl
theorem w1_227 : (Jvm.Cond.selects "TeethForCoins" ({ cls := "TeethForCoins", name := "fault", desc := "()I" } : Jvm.MethodName) ({ cls := "TeethForCoins", name := "fault", desc := "()I" } : Jvm.MethodName)) ∈ TB := tb_t (tl_1 227 rfl) rfl
theorem w1_228 : (Jvm.Cond.code ({ cls := "TeethForCoins", name := "fault", desc := "()I" } : Jvm.MethodName) prog_1_method_4_code (1 : Nat) (Option.some Jvm.ClassFile.FieldType.int)) ∈ TB := tb_t (tl_1 228 rfl) rfl
theorem w1_231 : (Jvm.Cond.instanceMethod ({ cls := "TeethForCoins$Text", name := "faultPlace", desc := "()I" } : Jvm.MethodName)) ∈ TB := tb_t (tl_1 231 rfl) rfl
theorem w1_232 : (Jvm.Cond.code ({ cls := "TeethForCoins$Text", name := "faultPlace", desc := "()I" } : Jvm.MethodName) prog_9_method_7_code (7 : Nat) (Option.some Jvm.ClassFile.FieldType.int)) ∈ TB := tb_t (tl_1 232 rfl) rfl
theorem w1_233 : (Jvm.Cond.methodLink "TeethForCoins$Text" (19 : Nat) ({ cls := "TeethForCoins$Text", name := "byteAt", desc := "(I)I" } : Jvm.MethodName)) ∈ TB := tb_t (tl_1 233 rfl) rfl
theorem w1_235 : (Jvm.Cond.instanceMethod ({ cls := "TeethForCoins$Text", name := "byteAt", desc := "(I)I" } : Jvm.MethodName)) ∈ TB := tb_t (tl_1 235 rfl) rfl
theorem w1_236 : (Jvm.Cond.code ({ cls := "TeethForCoins$Text", name := "byteAt", desc := "(I)I" } : Jvm.MethodName) prog_9_method_3_code (2 : Nat) (Option.some Jvm.ClassFile.FieldType.int)) ∈ TB := tb_t (tl_1 236 rfl) rfl
theorem w1_237 : (Jvm.Cond.methodLink "TeethForCoins$Text" (23 : Nat) ({ cls := "TeethForCoins$Text", name := "mayFollow", desc := "(III)Z" } : Jvm.MethodName)) ∈ TB := tb_t (tl_1 237 rfl) rfl
theorem w1_239 : (Jvm.Cond.instanceMethod ({ cls := "TeethForCoins$Text", name := "mayFollow", desc := "(III)Z" } : Jvm.MethodName)) ∈ TB := tb_t (tl_1 239 rfl) rfl
theorem w2_0 : (Jvm.Cond.code ({ cls := "TeethForCoins$Text", name := "mayFollow", desc := "(III)Z" } : Jvm.MethodName) prog_9_method_9_code (8 : Nat) (Option.some Jvm.ClassFile.FieldType.boolean)) ∈ TB := tb_t (tl_2 0 rfl) rfl
theorem w2_1 : (Jvm.Cond.methodLink "TeethForCoins$Text" (37 : Nat) ({ cls := "TeethForCoins$Text", name := "figureAt", desc := "(I)I" } : Jvm.MethodName)) ∈ TB := tb_t (tl_2 1 rfl) rfl
theorem w2_3 : (Jvm.Cond.instanceMethod ({ cls := "TeethForCoins$Text", name := "figureAt", desc := "(I)I" } : Jvm.MethodName)) ∈ TB := tb_t (tl_2 3 rfl) rfl
theorem w2_4 : (Jvm.Cond.code ({ cls := "TeethForCoins$Text", name := "figureAt", desc := "(I)I" } : Jvm.MethodName) prog_9_method_4_code (2 : Nat) (Option.some Jvm.ClassFile.FieldType.int)) ∈ TB := tb_t (tl_2 4 rfl) rfl
theorem w2_5 : (Jvm.Cond.methodLink "TeethForCoins$Text" (30 : Nat) ({ cls := "TeethForCoins$Text", name := "tellsTooth", desc := "(I)Z" } : Jvm.MethodName)) ∈ TB := tb_t (tl_2 5 rfl) rfl
theorem w2_6 : (Jvm.Cond.static ({ cls := "TeethForCoins$Text", name := "tellsTooth", desc := "(I)Z" } : Jvm.MethodName)) ∈ TB := tb_t (tl_2 6 rfl) rfl
theorem w2_7 : (Jvm.Cond.code ({ cls := "TeethForCoins$Text", name := "tellsTooth", desc := "(I)Z" } : Jvm.MethodName) prog_9_method_5_code (1 : Nat) (Option.some Jvm.ClassFile.FieldType.boolean)) ∈ TB := tb_t (tl_2 7 rfl) rfl
theorem w2_8 : (Jvm.Cond.methodLink "TeethForCoins$Text" (27 : Nat) ({ cls := "TeethForCoins$Text", name := "mayBegin", desc := "(III)Z" } : Jvm.MethodName)) ∈ TB := tb_t (tl_2 8 rfl) rfl
theorem w2_9 : (Jvm.Cond.static ({ cls := "TeethForCoins$Text", name := "mayBegin", desc := "(III)Z" } : Jvm.MethodName)) ∈ TB := tb_t (tl_2 9 rfl) rfl
theorem w2_10 : (Jvm.Cond.code ({ cls := "TeethForCoins$Text", name := "mayBegin", desc := "(III)Z" } : Jvm.MethodName) prog_9_method_8_code (3 : Nat) (Option.some Jvm.ClassFile.FieldType.boolean)) ∈ TB := tb_t (tl_2 10 rfl) rfl
theorem w2_11 : (Jvm.Cond.methodLink "TeethForCoins$Text" (34 : Nat) ({ cls := "TeethForCoins$Text", name := "partLength", desc := "(I)I" } : Jvm.MethodName)) ∈ TB := tb_t (tl_2 11 rfl) rfl
theorem w2_12 : (Jvm.Cond.static ({ cls := "TeethForCoins$Text", name := "partLength", desc := "(I)I" } : Jvm.MethodName)) ∈ TB := tb_t (tl_2 12 rfl) rfl
theorem w2_13 : (Jvm.Cond.code ({ cls := "TeethForCoins$Text", name := "partLength", desc := "(I)I" } : Jvm.MethodName) prog_9_method_6_code (1 : Nat) (Option.some Jvm.ClassFile.FieldType.int)) ∈ TB := tb_t (tl_2 13 rfl) rfl
theorem w2_14 : (Jvm.Cond.methodLink "TeethForCoinsLaw" (29 : Nat) ({ cls := "TeethForCoins", name := "market", desc := "()I" } : Jvm.MethodName)) ∈ TB := tb_t (tl_2 14 rfl) rfl
theorem w2_15 : (Jvm.Cond.instanceMethod ({ cls := "TeethForCoins", name := "market", desc := "()I" } : Jvm.MethodName)) ∈ TB := tb_t (tl_2 15 rfl) rfl
theorem w2_16 : (Jvm.Cond.selects "TeethForCoins" ({ cls := "TeethForCoins", name := "market", desc := "()I" } : Jvm.MethodName) ({ cls := "TeethForCoins", name := "market", desc := "()I" } : Jvm.MethodName)) ∈ TB := tb_t (tl_2 16 rfl) rfl
theorem w2_17 : (Jvm.Cond.code ({ cls := "TeethForCoins", name := "market", desc := "()I" } : Jvm.MethodName) prog_1_method_5_code (2 : Nat) (Option.some Jvm.ClassFile.FieldType.int)) ∈ TB := tb_t (tl_2 17 rfl) rfl
theorem w2_19 : (Jvm.Cond.methodLink "TeethForCoins" (101 : Nat) ({ cls := "TeethForCoins", name := "readPart", desc := "(I)V" } : Jvm.MethodName)) ∈ TB := tb_t (tl_2 19 rfl) rfl
theorem w2_21 : (Jvm.Cond.instanceMethod ({ cls := "TeethForCoins", name := "readPart", desc := "(I)V" } : Jvm.MethodName)) ∈ TB := tb_t (tl_2 21 rfl) rfl
theorem w2_22 : (Jvm.Cond.code ({ cls := "TeethForCoins", name := "readPart", desc := "(I)V" } : Jvm.MethodName) prog_1_method_42_code (4 : Nat) (Option.none : Option Jvm.ClassFile.FieldType)) ∈ TB := tb_t (tl_2 22 rfl) rfl
theorem w2_27 : (Jvm.Cond.instanceMethod ({ cls := "TeethForCoins$Teeth", name := "add", desc := "(IZI)I" } : Jvm.MethodName)) ∈ TB := tb_t (tl_2 27 rfl) rfl
theorem w2_28 : (Jvm.Cond.code ({ cls := "TeethForCoins$Teeth", name := "add", desc := "(IZI)I" } : Jvm.MethodName) prog_8_method_4_code (5 : Nat) (Option.some Jvm.ClassFile.FieldType.int)) ∈ TB := tb_t (tl_2 28 rfl) rfl
theorem w2_29 : (Jvm.Cond.methodLink "TeethForCoins$Teeth" (19 : Nat) ({ cls := "TeethForCoins$Teeth", name := "set", desc := "(III)V" } : Jvm.MethodName)) ∈ TB := tb_t (tl_2 29 rfl) rfl
theorem w2_31 : (Jvm.Cond.instanceMethod ({ cls := "TeethForCoins$Teeth", name := "set", desc := "(III)V" } : Jvm.MethodName)) ∈ TB := tb_t (tl_2 31 rfl) rfl
theorem w2_32 : (Jvm.Cond.code ({ cls := "TeethForCoins$Teeth", name := "set", desc := "(III)V" } : Jvm.MethodName) prog_8_method_3_code (5 : Nat) (Option.none : Option Jvm.ClassFile.FieldType)) ∈ TB := tb_t (tl_2 32 rfl) rfl
theorem w2_33 : (Jvm.Cond.methodLink "TeethForCoins$Teeth" (23 : Nat) ({ cls := "TeethForCoins$Teeth", name := "passTo", desc := "(II)V" } : Jvm.MethodName)) ∈ TB := tb_t (tl_2 33 rfl) rfl
theorem w2_35 : (Jvm.Cond.instanceMethod ({ cls := "TeethForCoins$Teeth", name := "passTo", desc := "(II)V" } : Jvm.MethodName)) ∈ TB := tb_t (tl_2 35 rfl) rfl
theorem w2_36 : (Jvm.Cond.code ({ cls := "TeethForCoins$Teeth", name := "passTo", desc := "(II)V" } : Jvm.MethodName) prog_8_method_5_code (4 : Nat) (Option.none : Option Jvm.ClassFile.FieldType)) ∈ TB := tb_t (tl_2 36 rfl) rfl
theorem w2_37 : (Jvm.Cond.methodLink "TeethForCoins$Teeth" (27 : Nat) ({ cls := "TeethForCoins$Teeth", name := "get", desc := "(II)I" } : Jvm.MethodName)) ∈ TB := tb_t (tl_2 37 rfl) rfl
theorem w2_39 : (Jvm.Cond.instanceMethod ({ cls := "TeethForCoins$Teeth", name := "get", desc := "(II)I" } : Jvm.MethodName)) ∈ TB := tb_t (tl_2 39 rfl) rfl
theorem w2_40 : (Jvm.Cond.code ({ cls := "TeethForCoins$Teeth", name := "get", desc := "(II)I" } : Jvm.MethodName) prog_8_method_2_code (4 : Nat) (Option.some Jvm.ClassFile.FieldType.int)) ∈ TB := tb_t (tl_2 40 rfl) rfl
theorem w2_44 : (Jvm.Cond.instanceMethod ({ cls := "TeethForCoins$Goods", name := "add", desc := "(II)V" } : Jvm.MethodName)) ∈ TB := tb_t (tl_2 44 rfl) rfl
theorem w2_45 : (Jvm.Cond.code ({ cls := "TeethForCoins$Goods", name := "add", desc := "(II)V" } : Jvm.MethodName) prog_3_method_2_code (3 : Nat) (Option.none : Option Jvm.ClassFile.FieldType)) ∈ TB := tb_t (tl_2 45 rfl) rfl
theorem w2_47 : (Jvm.Cond.methodLink "TeethForCoins" (111 : Nat) ({ cls := "java/lang/Math", name := "max", desc := "(II)I" } : Jvm.MethodName)) ∈ TB := tb_t (tl_2 47 rfl) rfl
theorem w2_48 : (Jvm.Cond.static ({ cls := "java/lang/Math", name := "max", desc := "(II)I" } : Jvm.MethodName)) ∈ TB := tb_t (tl_2 48 rfl) rfl
theorem w2_49 : (Jvm.Cond.code ({ cls := "java/lang/Math", name := "max", desc := "(II)I" } : Jvm.MethodName) prog_13_method_65_code (2 : Nat) (Option.some Jvm.ClassFile.FieldType.int)) ∈ TB := tb_t (tl_2 49 rfl) rfl
theorem w2_50 : (Jvm.Cond.methodLink "TeethForCoinsLaw" (33 : Nat) ({ cls := "TeethForCoins", name := "about", desc := "(I)I" } : Jvm.MethodName)) ∈ TB := tb_t (tl_2 50 rfl) rfl
theorem w2_51 : (Jvm.Cond.instanceMethod ({ cls := "TeethForCoins", name := "about", desc := "(I)I" } : Jvm.MethodName)) ∈ TB := tb_t (tl_2 51 rfl) rfl
theorem w2_52 : (Jvm.Cond.selects "TeethForCoins" ({ cls := "TeethForCoins", name := "about", desc := "(I)I" } : Jvm.MethodName) ({ cls := "TeethForCoins", name := "about", desc := "(I)I" } : Jvm.MethodName)) ∈ TB := tb_t (tl_2 52 rfl) rfl
theorem w2_53 : (Jvm.Cond.code ({ cls := "TeethForCoins", name := "about", desc := "(I)I" } : Jvm.MethodName) prog_1_method_6_code (2 : Nat) (Option.some Jvm.ClassFile.FieldType.int)) ∈ TB := tb_t (tl_2 53 rfl) rfl
theorem w2_56 : (Jvm.Cond.instanceMethod ({ cls := "TeethForCoins$Teeth", name := "fakes", desc := "()I" } : Jvm.MethodName)) ∈ TB := tb_t (tl_2 56 rfl) rfl
theorem w2_57 : (Jvm.Cond.code ({ cls := "TeethForCoins$Teeth", name := "fakes", desc := "()I" } : Jvm.MethodName) prog_8_method_9_code (3 : Nat) (Option.some Jvm.ClassFile.FieldType.int)) ∈ TB := tb_t (tl_2 57 rfl) rfl
theorem w2_58 : (Jvm.Cond.methodLink "TeethForCoinsLaw" (38 : Nat) ({ cls := "TeethForCoins", name := "tooth", desc := "(II)I" } : Jvm.MethodName)) ∈ TB := tb_t (tl_2 58 rfl) rfl
theorem w2_59 : (Jvm.Cond.instanceMethod ({ cls := "TeethForCoins", name := "tooth", desc := "(II)I" } : Jvm.MethodName)) ∈ TB := tb_t (tl_2 59 rfl) rfl
theorem w2_60 : (Jvm.Cond.selects "TeethForCoins" ({ cls := "TeethForCoins", name := "tooth", desc := "(II)I" } : Jvm.MethodName) ({ cls := "TeethForCoins", name := "tooth", desc := "(II)I" } : Jvm.MethodName)) ∈ TB := tb_t (tl_2 60 rfl) rfl
theorem w2_61 : (Jvm.Cond.code ({ cls := "TeethForCoins", name := "tooth", desc := "(II)I" } : Jvm.MethodName) prog_1_method_7_code (3 : Nat) (Option.some Jvm.ClassFile.FieldType.int)) ∈ TB := tb_t (tl_2 61 rfl) rfl
theorem w2_62 : (Jvm.Cond.methodLink "TeethForCoins" (120 : Nat) ({ cls := "TeethForCoins", name := "isTooth", desc := "(I)Z" } : Jvm.MethodName)) ∈ TB := tb_t (tl_2 62 rfl) rfl
theorem w2_64 : (Jvm.Cond.instanceMethod ({ cls := "TeethForCoins", name := "isTooth", desc := "(I)Z" } : Jvm.MethodName)) ∈ TB := tb_t (tl_2 64 rfl) rfl
theorem w2_65 : (Jvm.Cond.code ({ cls := "TeethForCoins", name := "isTooth", desc := "(I)Z" } : Jvm.MethodName) prog_1_method_34_code (2 : Nat) (Option.some Jvm.ClassFile.FieldType.boolean)) ∈ TB := tb_t (tl_2 65 rfl) rfl
theorem w2_67 : (Jvm.Cond.methodLink "TeethForCoins" (127 : Nat) ({ cls := "TeethForCoins", name := "worthOf", desc := "(I)I" } : Jvm.MethodName)) ∈ TB := tb_t (tl_2 67 rfl) rfl
theorem w2_69 : (Jvm.Cond.instanceMethod ({ cls := "TeethForCoins", name := "worthOf", desc := "(I)I" } : Jvm.MethodName)) ∈ TB := tb_t (tl_2 69 rfl) rfl
theorem w2_70 : (Jvm.Cond.code ({ cls := "TeethForCoins", name := "worthOf", desc := "(I)I" } : Jvm.MethodName) prog_1_method_44_code (2 : Nat) (Option.some Jvm.ClassFile.FieldType.int)) ∈ TB := tb_t (tl_2 70 rfl) rfl
theorem w2_71 : (Jvm.Cond.methodLink "TeethForCoins" (224 : Nat) ({ cls := "TeethForCoins", name := "worthWorn", desc := "(II)I" } : Jvm.MethodName)) ∈ TB := tb_t (tl_2 71 rfl) rfl
theorem w2_73 : (Jvm.Cond.instanceMethod ({ cls := "TeethForCoins", name := "worthWorn", desc := "(II)I" } : Jvm.MethodName)) ∈ TB := tb_t (tl_2 73 rfl) rfl
theorem w2_74 : (Jvm.Cond.code ({ cls := "TeethForCoins", name := "worthWorn", desc := "(II)I" } : Jvm.MethodName) prog_1_method_43_code (4 : Nat) (Option.some Jvm.ClassFile.FieldType.int)) ∈ TB := tb_t (tl_2 74 rfl) rfl
theorem w2_75 : (Jvm.Cond.methodLink "TeethForCoinsLaw" (43 : Nat) ({ cls := "TeethForCoins", name := "good", desc := "(II)I" } : Jvm.MethodName)) ∈ TB := tb_t (tl_2 75 rfl) rfl
theorem w2_76 : (Jvm.Cond.instanceMethod ({ cls := "TeethForCoins", name := "good", desc := "(II)I" } : Jvm.MethodName)) ∈ TB := tb_t (tl_2 76 rfl) rfl
theorem w2_77 : (Jvm.Cond.selects "TeethForCoins" ({ cls := "TeethForCoins", name := "good", desc := "(II)I" } : Jvm.MethodName) ({ cls := "TeethForCoins", name := "good", desc := "(II)I" } : Jvm.MethodName)) ∈ TB := tb_t (tl_2 77 rfl) rfl
theorem w2_78 : (Jvm.Cond.code ({ cls := "TeethForCoins", name := "good", desc := "(II)I" } : Jvm.MethodName) prog_1_method_8_code (3 : Nat) (Option.some Jvm.ClassFile.FieldType.int)) ∈ TB := tb_t (tl_2 78 rfl) rfl
theorem w2_79 : (Jvm.Cond.methodLink "TeethForCoins" (130 : Nat) ({ cls := "TeethForCoins", name := "isGood", desc := "(I)Z" } : Jvm.MethodName)) ∈ TB := tb_t (tl_2 79 rfl) rfl
theorem w2_81 : (Jvm.Cond.instanceMethod ({ cls := "TeethForCoins", name := "isGood", desc := "(I)Z" } : Jvm.MethodName)) ∈ TB := tb_t (tl_2 81 rfl) rfl
theorem w2_82 : (Jvm.Cond.code ({ cls := "TeethForCoins", name := "isGood", desc := "(I)Z" } : Jvm.MethodName) prog_1_method_35_code (2 : Nat) (Option.some Jvm.ClassFile.FieldType.boolean)) ∈ TB := tb_t (tl_2 82 rfl) rfl
theorem w2_85 : (Jvm.Cond.instanceMethod ({ cls := "TeethForCoins$Goods", name := "priceOf", desc := "(I)I" } : Jvm.MethodName)) ∈ TB := tb_t (tl_2 85 rfl) rfl
theorem w2_86 : (Jvm.Cond.code ({ cls := "TeethForCoins$Goods", name := "priceOf", desc := "(I)I" } : Jvm.MethodName) prog_3_method_3_code (2 : Nat) (Option.some Jvm.ClassFile.FieldType.int)) ∈ TB := tb_t (tl_2 86 rfl) rfl
theorem w2_89 : (Jvm.Cond.instanceMethod ({ cls := "TeethForCoins$Goods", name := "useOf", desc := "(I)I" } : Jvm.MethodName)) ∈ TB := tb_t (tl_2 89 rfl) rfl
theorem w2_90 : (Jvm.Cond.code ({ cls := "TeethForCoins$Goods", name := "useOf", desc := "(I)I" } : Jvm.MethodName) prog_3_method_4_code (2 : Nat) (Option.some Jvm.ClassFile.FieldType.int)) ∈ TB := tb_t (tl_2 90 rfl) rfl
theorem w2_91 : (Jvm.Cond.methodLink "TeethForCoinsLaw" (47 : Nat) ({ cls := "TeethForCoins", name := "purse", desc := "(I)I" } : Jvm.MethodName)) ∈ TB := tb_t (tl_2 91 rfl) rfl
theorem w2_92 : (Jvm.Cond.instanceMethod ({ cls := "TeethForCoins", name := "purse", desc := "(I)I" } : Jvm.MethodName)) ∈ TB := tb_t (tl_2 92 rfl) rfl
theorem w2_93 : (Jvm.Cond.selects "TeethForCoins" ({ cls := "TeethForCoins", name := "purse", desc := "(I)I" } : Jvm.MethodName) ({ cls := "TeethForCoins", name := "purse", desc := "(I)I" } : Jvm.MethodName)) ∈ TB := tb_t (tl_2 93 rfl) rfl
theorem w2_94 : (Jvm.Cond.code ({ cls := "TeethForCoins", name := "purse", desc := "(I)I" } : Jvm.MethodName) prog_1_method_9_code (2 : Nat) (Option.some Jvm.ClassFile.FieldType.int)) ∈ TB := tb_t (tl_2 94 rfl) rfl
theorem w2_95 : (Jvm.Cond.methodLink "TeethForCoins" (139 : Nat) ({ cls := "TeethForCoins", name := "isPerson", desc := "(I)Z" } : Jvm.MethodName)) ∈ TB := tb_t (tl_2 95 rfl) rfl
theorem w2_96 : (Jvm.Cond.static ({ cls := "TeethForCoins", name := "isPerson", desc := "(I)Z" } : Jvm.MethodName)) ∈ TB := tb_t (tl_2 96 rfl) rfl
theorem w2_97 : (Jvm.Cond.code ({ cls := "TeethForCoins", name := "isPerson", desc := "(I)Z" } : Jvm.MethodName) prog_1_method_37_code (1 : Nat) (Option.some Jvm.ClassFile.FieldType.boolean)) ∈ TB := tb_t (tl_2 97 rfl) rfl
theorem w2_100 : (Jvm.Cond.instanceMethod ({ cls := "TeethForCoins$Teeth", name := "ownedBy", desc := "(I)I" } : Jvm.MethodName)) ∈ TB := tb_t (tl_2 100 rfl) rfl
theorem w2_101 : (Jvm.Cond.code ({ cls := "TeethForCoins$Teeth", name := "ownedBy", desc := "(I)I" } : Jvm.MethodName) prog_8_method_8_code (4 : Nat) (Option.some Jvm.ClassFile.FieldType.int)) ∈ TB := tb_t (tl_2 101 rfl) rfl
theorem w2_102 : (Jvm.Cond.methodLink "TeethForCoins" (145 : Nat) ({ cls := "TeethForCoins", name := "worthOfSet", desc := "(I)I" } : Jvm.MethodName)) ∈ TB := tb_t (tl_2 102 rfl) rfl
theorem w2_104 : (Jvm.Cond.instanceMethod ({ cls := "TeethForCoins", name := "worthOfSet", desc := "(I)I" } : Jvm.MethodName)) ∈ TB := tb_t (tl_2 104 rfl) rfl
theorem w2_105 : (Jvm.Cond.code ({ cls := "TeethForCoins", name := "worthOfSet", desc := "(I)I" } : Jvm.MethodName) prog_1_method_45_code (4 : Nat) (Option.some Jvm.ClassFile.FieldType.int)) ∈ TB := tb_t (tl_2 105 rfl) rfl
theorem w2_106 : (Jvm.Cond.methodLink "TeethForCoinsLaw" (51 : Nat) ({ cls := "TeethForCoins", name := "handle", desc := "(I)I" } : Jvm.MethodName)) ∈ TB := tb_t (tl_2 106 rfl) rfl
theorem w2_107 : (Jvm.Cond.instanceMethod ({ cls := "TeethForCoins", name := "handle", desc := "(I)I" } : Jvm.MethodName)) ∈ TB := tb_t (tl_2 107 rfl) rfl
theorem w2_108 : (Jvm.Cond.selects "TeethForCoins" ({ cls := "TeethForCoins", name := "handle", desc := "(I)I" } : Jvm.MethodName) ({ cls := "TeethForCoins", name := "handle", desc := "(I)I" } : Jvm.MethodName)) ∈ TB := tb_t (tl_2 108 rfl) rfl
theorem w2_109 : (Jvm.Cond.code ({ cls := "TeethForCoins", name := "handle", desc := "(I)I" } : Jvm.MethodName) prog_1_method_10_code (2 : Nat) (Option.some Jvm.ClassFile.FieldType.int)) ∈ TB := tb_t (tl_2 109 rfl) rfl
theorem w2_112 : (Jvm.Cond.instanceMethod ({ cls := "TeethForCoins$Teeth", name := "wearDown", desc := "(I)V" } : Jvm.MethodName)) ∈ TB := tb_t (tl_2 112 rfl) rfl
theorem w2_113 : (Jvm.Cond.code ({ cls := "TeethForCoins$Teeth", name := "wearDown", desc := "(I)V" } : Jvm.MethodName) prog_8_method_7_code (2 : Nat) (Option.none : Option Jvm.ClassFile.FieldType)) ∈ TB := tb_t (tl_2 113 rfl) rfl
theorem w2_114 : (Jvm.Cond.methodLink "TeethForCoins$Teeth" (31 : Nat) ({ cls := "java/lang/Math", name := "min", desc := "(II)I" } : Jvm.MethodName)) ∈ TB := tb_t (tl_2 114 rfl) rfl
theorem w2_115 : (Jvm.Cond.static ({ cls := "java/lang/Math", name := "min", desc := "(II)I" } : Jvm.MethodName)) ∈ TB := tb_t (tl_2 115 rfl) rfl
theorem w2_116 : (Jvm.Cond.code ({ cls := "java/lang/Math", name := "min", desc := "(II)I" } : Jvm.MethodName) prog_13_method_69_code (2 : Nat) (Option.some Jvm.ClassFile.FieldType.int)) ∈ TB := tb_t (tl_2 116 rfl) rfl
theorem w2_117 : (Jvm.Cond.methodLink "TeethForCoinsLaw" (55 : Nat) ({ cls := "TeethForCoins", name := "bite", desc := "(I)I" } : Jvm.MethodName)) ∈ TB := tb_t (tl_2 117 rfl) rfl
theorem w2_118 : (Jvm.Cond.instanceMethod ({ cls := "TeethForCoins", name := "bite", desc := "(I)I" } : Jvm.MethodName)) ∈ TB := tb_t (tl_2 118 rfl) rfl
theorem w2_119 : (Jvm.Cond.selects "TeethForCoins" ({ cls := "TeethForCoins", name := "bite", desc := "(I)I" } : Jvm.MethodName) ({ cls := "TeethForCoins", name := "bite", desc := "(I)I" } : Jvm.MethodName)) ∈ TB := tb_t (tl_2 119 rfl) rfl
theorem w2_120 : (Jvm.Cond.code ({ cls := "TeethForCoins", name := "bite", desc := "(I)I" } : Jvm.MethodName) prog_1_method_11_code (3 : Nat) (Option.some Jvm.ClassFile.FieldType.int)) ∈ TB := tb_t (tl_2 120 rfl) rfl
theorem w2_121 : (Jvm.Cond.methodLink "TeethForCoinsLaw" (59 : Nat) ({ cls := "TeethForCoins", name := "fewest", desc := "(III)I" } : Jvm.MethodName)) ∈ TB := tb_t (tl_2 121 rfl) rfl
theorem w2_122 : (Jvm.Cond.instanceMethod ({ cls := "TeethForCoins", name := "fewest", desc := "(III)I" } : Jvm.MethodName)) ∈ TB := tb_t (tl_2 122 rfl) rfl
theorem w2_123 : (Jvm.Cond.selects "TeethForCoins" ({ cls := "TeethForCoins", name := "fewest", desc := "(III)I" } : Jvm.MethodName) ({ cls := "TeethForCoins", name := "fewest", desc := "(III)I" } : Jvm.MethodName)) ∈ TB := tb_t (tl_2 123 rfl) rfl
theorem w2_124 : (Jvm.Cond.code ({ cls := "TeethForCoins", name := "fewest", desc := "(III)I" } : Jvm.MethodName) prog_1_method_12_code (5 : Nat) (Option.some Jvm.ClassFile.FieldType.int)) ∈ TB := tb_t (tl_2 124 rfl) rfl
theorem w2_125 : (Jvm.Cond.methodLink "TeethForCoins" (155 : Nat) ({ cls := "TeethForCoins", name := "paymentRefusal", desc := "(III)I" } : Jvm.MethodName)) ∈ TB := tb_t (tl_2 125 rfl) rfl
theorem w2_126 : (Jvm.Cond.static ({ cls := "TeethForCoins", name := "paymentRefusal", desc := "(III)I" } : Jvm.MethodName)) ∈ TB := tb_t (tl_2 126 rfl) rfl
theorem w2_127 : (Jvm.Cond.code ({ cls := "TeethForCoins", name := "paymentRefusal", desc := "(III)I" } : Jvm.MethodName) prog_1_method_41_code (3 : Nat) (Option.some Jvm.ClassFile.FieldType.int)) ∈ TB := tb_t (tl_2 127 rfl) rfl
theorem w2_128 : (Jvm.Cond.methodLink "TeethForCoins" (186 : Nat) ({ cls := "TeethForCoins", name := "isPrice", desc := "(I)Z" } : Jvm.MethodName)) ∈ TB := tb_t (tl_2 128 rfl) rfl
theorem w2_129 : (Jvm.Cond.static ({ cls := "TeethForCoins", name := "isPrice", desc := "(I)Z" } : Jvm.MethodName)) ∈ TB := tb_t (tl_2 129 rfl) rfl
theorem w2_130 : (Jvm.Cond.code ({ cls := "TeethForCoins", name := "isPrice", desc := "(I)Z" } : Jvm.MethodName) prog_1_method_39_code (1 : Nat) (Option.some Jvm.ClassFile.FieldType.boolean)) ∈ TB := tb_t (tl_2 130 rfl) rfl
theorem w2_131 : (Jvm.Cond.methodLink "TeethForCoins" (159 : Nat) ({ cls := "TeethForCoins", name := "seekFewest", desc := "(III)V" } : Jvm.MethodName)) ∈ TB := tb_t (tl_2 131 rfl) rfl
theorem w2_133 : (Jvm.Cond.instanceMethod ({ cls := "TeethForCoins", name := "seekFewest", desc := "(III)V" } : Jvm.MethodName)) ∈ TB := tb_t (tl_2 133 rfl) rfl
theorem w2_134 : (Jvm.Cond.code ({ cls := "TeethForCoins", name := "seekFewest", desc := "(III)V" } : Jvm.MethodName) prog_1_method_48_code (8 : Nat) (Option.none : Option Jvm.ClassFile.FieldType)) ∈ TB := tb_t (tl_2 134 rfl) rfl
theorem w2_135 : (Jvm.Cond.methodLink "TeethForCoins" (192 : Nat) ({ cls := "TeethForCoins", name := "weighSets", desc := "(I)V" } : Jvm.MethodName)) ∈ TB := tb_t (tl_2 135 rfl) rfl
theorem w2_137 : (Jvm.Cond.instanceMethod ({ cls := "TeethForCoins", name := "weighSets", desc := "(I)V" } : Jvm.MethodName)) ∈ TB := tb_t (tl_2 137 rfl) rfl
theorem w2_138 : (Jvm.Cond.code ({ cls := "TeethForCoins", name := "weighSets", desc := "(I)V" } : Jvm.MethodName) prog_1_method_47_code (6 : Nat) (Option.none : Option Jvm.ClassFile.FieldType)) ∈ TB := tb_t (tl_2 138 rfl) rfl
theorem w2_141 : (Jvm.Cond.instanceMethod ({ cls := "TeethForCoins$Least", name := "clear", desc := "()V" } : Jvm.MethodName)) ∈ TB := tb_t (tl_2 141 rfl) rfl
theorem w2_142 : (Jvm.Cond.code ({ cls := "TeethForCoins$Least", name := "clear", desc := "()V" } : Jvm.MethodName) prog_4_method_2_code (1 : Nat) (Option.none : Option Jvm.ClassFile.FieldType)) ∈ TB := tb_t (tl_2 142 rfl) rfl
theorem w2_143 : (Jvm.Cond.methodLink "TeethForCoins" (201 : Nat) ({ cls := "TeethForCoins", name := "setsOfTeeth", desc := "()I" } : Jvm.MethodName)) ∈ TB := tb_t (tl_2 143 rfl) rfl
theorem w2_145 : (Jvm.Cond.instanceMethod ({ cls := "TeethForCoins", name := "setsOfTeeth", desc := "()I" } : Jvm.MethodName)) ∈ TB := tb_t (tl_2 145 rfl) rfl
theorem w2_146 : (Jvm.Cond.code ({ cls := "TeethForCoins", name := "setsOfTeeth", desc := "()I" } : Jvm.MethodName) prog_1_method_46_code (1 : Nat) (Option.some Jvm.ClassFile.FieldType.int)) ∈ TB := tb_t (tl_2 146 rfl) rfl
theorem w2_147 : (Jvm.Cond.methodLink "TeethForCoins" (307 : Nat) ({ cls := "java/lang/Math", name := "min", desc := "(II)I" } : Jvm.MethodName)) ∈ TB := tb_t (tl_2 147 rfl) rfl
theorem w2_148 : (Jvm.Cond.methodLink "TeethForCoins" (310 : Nat) ({ cls := "java/lang/Integer", name := "bitCount", desc := "(I)I" } : Jvm.MethodName)) ∈ TB := tb_t (tl_2 148 rfl) rfl
theorem w2_149 : (Jvm.Cond.static ({ cls := "java/lang/Integer", name := "bitCount", desc := "(I)I" } : Jvm.MethodName)) ∈ TB := tb_t (tl_2 149 rfl) rfl
theorem w2_150 : (Jvm.Cond.code ({ cls := "java/lang/Integer", name := "bitCount", desc := "(I)I" } : Jvm.MethodName) prog_12_method_49_code (1 : Nat) (Option.some Jvm.ClassFile.FieldType.int)) ∈ TB := tb_t (tl_2 150 rfl) rfl
theorem w2_151 : (Jvm.Cond.constant "java/lang/Integer" (265 : Nat) (1431655765 : Int32)) ∈ TB := tb_t (tl_2 151 rfl) rfl
theorem w2_152 : (Jvm.Cond.constant "java/lang/Integer" (266 : Nat) (858993459 : Int32)) ∈ TB := tb_t (tl_2 152 rfl) rfl
theorem w2_153 : (Jvm.Cond.constant "java/lang/Integer" (267 : Nat) (252645135 : Int32)) ∈ TB := tb_t (tl_2 153 rfl) rfl
theorem w2_156 : (Jvm.Cond.instanceMethod ({ cls := "TeethForCoins$Least", name := "offer", desc := "(III)V" } : Jvm.MethodName)) ∈ TB := tb_t (tl_2 156 rfl) rfl
theorem w2_157 : (Jvm.Cond.code ({ cls := "TeethForCoins$Least", name := "offer", desc := "(III)V" } : Jvm.MethodName) prog_4_method_3_code (4 : Nat) (Option.none : Option Jvm.ClassFile.FieldType)) ∈ TB := tb_t (tl_2 157 rfl) rfl
theorem w2_158 : (Jvm.Cond.methodLink "TeethForCoinsLaw" (64 : Nat) ({ cls := "TeethForCoins", name := "paid", desc := "(IIIZ)I" } : Jvm.MethodName)) ∈ TB := tb_t (tl_2 158 rfl) rfl
theorem w2_159 : (Jvm.Cond.instanceMethod ({ cls := "TeethForCoins", name := "paid", desc := "(IIIZ)I" } : Jvm.MethodName)) ∈ TB := tb_t (tl_2 159 rfl) rfl
theorem w2_160 : (Jvm.Cond.selects "TeethForCoins" ({ cls := "TeethForCoins", name := "paid", desc := "(IIIZ)I" } : Jvm.MethodName) ({ cls := "TeethForCoins", name := "paid", desc := "(IIIZ)I" } : Jvm.MethodName)) ∈ TB := tb_t (tl_2 160 rfl) rfl
theorem w2_161 : (Jvm.Cond.code ({ cls := "TeethForCoins", name := "paid", desc := "(IIIZ)I" } : Jvm.MethodName) prog_1_method_13_code (6 : Nat) (Option.some Jvm.ClassFile.FieldType.int)) ∈ TB := tb_t (tl_2 161 rfl) rfl
theorem w2_162 : (Jvm.Cond.methodLink "TeethForCoinsLaw" (69 : Nat) ({ cls := "TeethForCoins", name := "pay", desc := "(III)I" } : Jvm.MethodName)) ∈ TB := tb_t (tl_2 162 rfl) rfl
theorem w2_163 : (Jvm.Cond.instanceMethod ({ cls := "TeethForCoins", name := "pay", desc := "(III)I" } : Jvm.MethodName)) ∈ TB := tb_t (tl_2 163 rfl) rfl
theorem w2_164 : (Jvm.Cond.selects "TeethForCoins" ({ cls := "TeethForCoins", name := "pay", desc := "(III)I" } : Jvm.MethodName) ({ cls := "TeethForCoins", name := "pay", desc := "(III)I" } : Jvm.MethodName)) ∈ TB := tb_t (tl_2 164 rfl) rfl
theorem w2_165 : (Jvm.Cond.code ({ cls := "TeethForCoins", name := "pay", desc := "(III)I" } : Jvm.MethodName) prog_1_method_14_code (5 : Nat) (Option.some Jvm.ClassFile.FieldType.int)) ∈ TB := tb_t (tl_2 165 rfl) rfl
theorem w2_168 : (Jvm.Cond.instanceMethod ({ cls := "TeethForCoins$Bargains", name := "remember", desc := "(LTeethForCoins$Teeth;)V" } : Jvm.MethodName)) ∈ TB := tb_t (tl_2 168 rfl) rfl
theorem w2_169 : (Jvm.Cond.code ({ cls := "TeethForCoins$Bargains", name := "remember", desc := "(LTeethForCoins$Teeth;)V" } : Jvm.MethodName) prog_2_method_2_code (2 : Nat) (Option.none : Option Jvm.ClassFile.FieldType)) ∈ TB := tb_t (tl_2 169 rfl) rfl
theorem w2_172 : (Jvm.Cond.instanceMethod ({ cls := "TeethForCoins$Teeth", name := "copyFrom", desc := "(LTeethForCoins$Teeth;)V" } : Jvm.MethodName)) ∈ TB := tb_t (tl_2 172 rfl) rfl
theorem w2_173 : (Jvm.Cond.code ({ cls := "TeethForCoins$Teeth", name := "copyFrom", desc := "(LTeethForCoins$Teeth;)V" } : Jvm.MethodName) prog_8_method_12_code (2 : Nat) (Option.none : Option Jvm.ClassFile.FieldType)) ∈ TB := tb_t (tl_2 173 rfl) rfl
theorem w2_174 : (Jvm.Cond.methodLink "TeethForCoins$Teeth" (43 : Nat) ({ cls := "TeethForCoins$Teeth", name := "copyCells", desc := "(LTeethForCoins$Teeth;II)V" } : Jvm.MethodName)) ∈ TB := tb_t (tl_2 174 rfl) rfl
theorem w2_176 : (Jvm.Cond.instanceMethod ({ cls := "TeethForCoins$Teeth", name := "copyCells", desc := "(LTeethForCoins$Teeth;II)V" } : Jvm.MethodName)) ∈ TB := tb_t (tl_2 176 rfl) rfl
theorem w2_177 : (Jvm.Cond.code ({ cls := "TeethForCoins$Teeth", name := "copyCells", desc := "(LTeethForCoins$Teeth;II)V" } : Jvm.MethodName) prog_8_method_14_code (4 : Nat) (Option.none : Option Jvm.ClassFile.FieldType)) ∈ TB := tb_t (tl_2 177 rfl) rfl
theorem w2_178 : (Jvm.Cond.methodLink "TeethForCoins$Teeth" (47 : Nat) ({ cls := "java/lang/System", name := "arraycopy", desc := "(Ljava/lang/Object;ILjava/lang/Object;II)V" } : Jvm.MethodName)) ∈ TB := tb_t (tl_2 178 rfl) rfl
theorem w2_179 : (Jvm.Cond.static ({ cls := "java/lang/System", name := "arraycopy", desc := "(Ljava/lang/Object;ILjava/lang/Object;II)V" } : Jvm.MethodName)) ∈ TB := tb_t (tl_2 179 rfl) rfl
theorem w2_180 : (Jvm.Cond.native ({ cls := "java/lang/System", name := "arraycopy", desc := "(Ljava/lang/Object;ILjava/lang/Object;II)V" } : Jvm.MethodName)) ∈ TB := tb_t (tl_2 180 rfl) rfl
theorem w2_181 : (Jvm.Cond.methodLink "TeethForCoins" (179 : Nat) ({ cls := "TeethForCoins", name := "handOver", desc := "(II)V" } : Jvm.MethodName)) ∈ TB := tb_t (tl_2 181 rfl) rfl
theorem w2_183 : (Jvm.Cond.instanceMethod ({ cls := "TeethForCoins", name := "handOver", desc := "(II)V" } : Jvm.MethodName)) ∈ TB := tb_t (tl_2 183 rfl) rfl
theorem w2_184 : (Jvm.Cond.code ({ cls := "TeethForCoins", name := "handOver", desc := "(II)V" } : Jvm.MethodName) prog_1_method_50_code (4 : Nat) (Option.none : Option Jvm.ClassFile.FieldType)) ∈ TB := tb_t (tl_2 184 rfl) rfl
theorem w2_186 : (Jvm.Cond.methodLink "TeethForCoinsLaw" (73 : Nat) ({ cls := "TeethForCoins", name := "undo", desc := "()I" } : Jvm.MethodName)) ∈ TB := tb_t (tl_2 186 rfl) rfl
theorem w2_187 : (Jvm.Cond.instanceMethod ({ cls := "TeethForCoins", name := "undo", desc := "()I" } : Jvm.MethodName)) ∈ TB := tb_t (tl_2 187 rfl) rfl
theorem w2_188 : (Jvm.Cond.selects "TeethForCoins" ({ cls := "TeethForCoins", name := "undo", desc := "()I" } : Jvm.MethodName) ({ cls := "TeethForCoins", name := "undo", desc := "()I" } : Jvm.MethodName)) ∈ TB := tb_t (tl_2 188 rfl) rfl
theorem w2_189 : (Jvm.Cond.code ({ cls := "TeethForCoins", name := "undo", desc := "()I" } : Jvm.MethodName) prog_1_method_15_code (1 : Nat) (Option.some Jvm.ClassFile.FieldType.int)) ∈ TB := tb_t (tl_2 189 rfl) rfl
theorem w2_192 : (Jvm.Cond.instanceMethod ({ cls := "TeethForCoins$Bargains", name := "takeBack", desc := "(LTeethForCoins$Teeth;)V" } : Jvm.MethodName)) ∈ TB := tb_t (tl_2 192 rfl) rfl
theorem w2_193 : (Jvm.Cond.code ({ cls := "TeethForCoins$Bargains", name := "takeBack", desc := "(LTeethForCoins$Teeth;)V" } : Jvm.MethodName) prog_2_method_3_code (2 : Nat) (Option.none : Option Jvm.ClassFile.FieldType)) ∈ TB := tb_t (tl_2 193 rfl) rfl
theorem w2_196 : (Jvm.Cond.instanceMethod ({ cls := "TeethForCoins$Teeth", name := "takeBack", desc := "(LTeethForCoins$Teeth;)V" } : Jvm.MethodName)) ∈ TB := tb_t (tl_2 196 rfl) rfl
theorem w2_197 : (Jvm.Cond.code ({ cls := "TeethForCoins$Teeth", name := "takeBack", desc := "(LTeethForCoins$Teeth;)V" } : Jvm.MethodName) prog_8_method_13_code (4 : Nat) (Option.none : Option Jvm.ClassFile.FieldType)) ∈ TB := tb_t (tl_2 197 rfl) rfl
theorem w2_198 : (Jvm.Cond.methodLink "TeethForCoinsLaw" (77 : Nat) ({ cls := "TeethForCoins", name := "tooMuch", desc := "(IIZ)I" } : Jvm.MethodName)) ∈ TB := tb_t (tl_2 198 rfl) rfl
theorem w2_199 : (Jvm.Cond.instanceMethod ({ cls := "TeethForCoins", name := "tooMuch", desc := "(IIZ)I" } : Jvm.MethodName)) ∈ TB := tb_t (tl_2 199 rfl) rfl
theorem w2_200 : (Jvm.Cond.selects "TeethForCoins" ({ cls := "TeethForCoins", name := "tooMuch", desc := "(IIZ)I" } : Jvm.MethodName) ({ cls := "TeethForCoins", name := "tooMuch", desc := "(IIZ)I" } : Jvm.MethodName)) ∈ TB := tb_t (tl_2 200 rfl) rfl
theorem w2_201 : (Jvm.Cond.code ({ cls := "TeethForCoins", name := "tooMuch", desc := "(IIZ)I" } : Jvm.MethodName) prog_1_method_16_code (4 : Nat) (Option.some Jvm.ClassFile.FieldType.int)) ∈ TB := tb_t (tl_2 201 rfl) rfl
theorem w2_202 : (Jvm.Cond.methodLink "TeethForCoins" (189 : Nat) ({ cls := "TeethForCoins", name := "seekTooMuch", desc := "(II)V" } : Jvm.MethodName)) ∈ TB := tb_t (tl_2 202 rfl) rfl
theorem w2_204 : (Jvm.Cond.instanceMethod ({ cls := "TeethForCoins", name := "seekTooMuch", desc := "(II)V" } : Jvm.MethodName)) ∈ TB := tb_t (tl_2 204 rfl) rfl
theorem w2_205 : (Jvm.Cond.code ({ cls := "TeethForCoins", name := "seekTooMuch", desc := "(II)V" } : Jvm.MethodName) prog_1_method_49_code (4 : Nat) (Option.none : Option Jvm.ClassFile.FieldType)) ∈ TB := tb_t (tl_2 205 rfl) rfl
theorem w2_206 : (Jvm.Cond.methodLink "TeethForCoinsLaw" (82 : Nat) ({ cls := "TeethForCoins", name := "sums", desc := "(III)I" } : Jvm.MethodName)) ∈ TB := tb_t (tl_2 206 rfl) rfl
theorem w2_207 : (Jvm.Cond.instanceMethod ({ cls := "TeethForCoins", name := "sums", desc := "(III)I" } : Jvm.MethodName)) ∈ TB := tb_t (tl_2 207 rfl) rfl
theorem w2_208 : (Jvm.Cond.selects "TeethForCoins" ({ cls := "TeethForCoins", name := "sums", desc := "(III)I" } : Jvm.MethodName) ({ cls := "TeethForCoins", name := "sums", desc := "(III)I" } : Jvm.MethodName)) ∈ TB := tb_t (tl_2 208 rfl) rfl
theorem w2_209 : (Jvm.Cond.code ({ cls := "TeethForCoins", name := "sums", desc := "(III)I" } : Jvm.MethodName) prog_1_method_17_code (9 : Nat) (Option.some Jvm.ClassFile.FieldType.int)) ∈ TB := tb_t (tl_2 209 rfl) rfl
theorem w2_210 : (Jvm.Cond.methodLink "TeethForCoins" (195 : Nat) ({ cls := "java/util/Arrays", name := "fill", desc := "([II)V" } : Jvm.MethodName)) ∈ TB := tb_t (tl_2 210 rfl) rfl
theorem w2_211 : (Jvm.Cond.methodLink "TeethForCoinsLaw" (86 : Nat) ({ cls := "TeethForCoins", name := "spent", desc := "(IZ)I" } : Jvm.MethodName)) ∈ TB := tb_t (tl_2 211 rfl) rfl
theorem w2_212 : (Jvm.Cond.instanceMethod ({ cls := "TeethForCoins", name := "spent", desc := "(IZ)I" } : Jvm.MethodName)) ∈ TB := tb_t (tl_2 212 rfl) rfl
theorem w2_213 : (Jvm.Cond.selects "TeethForCoins" ({ cls := "TeethForCoins", name := "spent", desc := "(IZ)I" } : Jvm.MethodName) ({ cls := "TeethForCoins", name := "spent", desc := "(IZ)I" } : Jvm.MethodName)) ∈ TB := tb_t (tl_2 213 rfl) rfl
theorem w2_214 : (Jvm.Cond.code ({ cls := "TeethForCoins", name := "spent", desc := "(IZ)I" } : Jvm.MethodName) prog_1_method_18_code (6 : Nat) (Option.some Jvm.ClassFile.FieldType.int)) ∈ TB := tb_t (tl_2 214 rfl) rfl
theorem w2_217 : (Jvm.Cond.instanceMethod ({ cls := "TeethForCoins$Goods", name := "priceOfSet", desc := "(I)I" } : Jvm.MethodName)) ∈ TB := tb_t (tl_2 217 rfl) rfl
theorem w2_218 : (Jvm.Cond.code ({ cls := "TeethForCoins$Goods", name := "priceOfSet", desc := "(I)I" } : Jvm.MethodName) prog_3_method_5_code (4 : Nat) (Option.some Jvm.ClassFile.FieldType.int)) ∈ TB := tb_t (tl_2 218 rfl) rfl
theorem w2_219 : (Jvm.Cond.methodLink "TeethForCoins$Goods" (22 : Nat) ({ cls := "TeethForCoins$Goods", name := "priceOf", desc := "(I)I" } : Jvm.MethodName)) ∈ TB := tb_t (tl_2 219 rfl) rfl
theorem w2_222 : (Jvm.Cond.instanceMethod ({ cls := "TeethForCoins$Goods", name := "useOfSet", desc := "(I)I" } : Jvm.MethodName)) ∈ TB := tb_t (tl_2 222 rfl) rfl
theorem w2_223 : (Jvm.Cond.code ({ cls := "TeethForCoins$Goods", name := "useOfSet", desc := "(I)I" } : Jvm.MethodName) prog_3_method_6_code (4 : Nat) (Option.some Jvm.ClassFile.FieldType.int)) ∈ TB := tb_t (tl_2 223 rfl) rfl
theorem w2_224 : (Jvm.Cond.methodLink "TeethForCoins$Goods" (26 : Nat) ({ cls := "TeethForCoins$Goods", name := "useOf", desc := "(I)I" } : Jvm.MethodName)) ∈ TB := tb_t (tl_2 224 rfl) rfl
theorem w2_225 : (Jvm.Cond.methodLink "TeethForCoinsLaw" (91 : Nat) ({ cls := "TeethForCoins", name := "caught", desc := "(IJ)I" } : Jvm.MethodName)) ∈ TB := tb_t (tl_2 225 rfl) rfl
theorem w2_226 : (Jvm.Cond.instanceMethod ({ cls := "TeethForCoins", name := "caught", desc := "(IJ)I" } : Jvm.MethodName)) ∈ TB := tb_t (tl_2 226 rfl) rfl
theorem w2_227 : (Jvm.Cond.selects "TeethForCoins" ({ cls := "TeethForCoins", name := "caught", desc := "(IJ)I" } : Jvm.MethodName) ({ cls := "TeethForCoins", name := "caught", desc := "(IJ)I" } : Jvm.MethodName)) ∈ TB := tb_t (tl_2 227 rfl) rfl
theorem w2_228 : (Jvm.Cond.code ({ cls := "TeethForCoins", name := "caught", desc := "(IJ)I" } : Jvm.MethodName) prog_1_method_19_code (4 : Nat) (Option.some Jvm.ClassFile.FieldType.int)) ∈ TB := tb_t (tl_2 228 rfl) rfl
theorem w2_229 : (Jvm.Cond.methodLink "TeethForCoins" (216 : Nat) ({ cls := "TeethForCoins", name := "drawFrom", desc := "(J)J" } : Jvm.MethodName)) ∈ TB := tb_t (tl_2 229 rfl) rfl
theorem w2_230 : (Jvm.Cond.static ({ cls := "TeethForCoins", name := "drawFrom", desc := "(J)J" } : Jvm.MethodName)) ∈ TB := tb_t (tl_2 230 rfl) rfl
theorem w2_231 : (Jvm.Cond.code ({ cls := "TeethForCoins", name := "drawFrom", desc := "(J)J" } : Jvm.MethodName) prog_1_method_51_code (2 : Nat) (Option.some Jvm.ClassFile.FieldType.long)) ∈ TB := tb_t (tl_2 231 rfl) rfl
theorem w2_232 : (Jvm.Cond.constantLong "TeethForCoins" (318 : Nat) (6364136223846793005 : Int64)) ∈ TB := tb_t (tl_2 232 rfl) rfl
theorem w2_233 : (Jvm.Cond.constantLong "TeethForCoins" (320 : Nat) (1442695040888963407 : Int64)) ∈ TB := tb_t (tl_2 233 rfl) rfl
theorem w2_234 : (Jvm.Cond.methodLink "TeethForCoins" (220 : Nat) ({ cls := "TeethForCoins", name := "addDrawn", desc := "(IJ)V" } : Jvm.MethodName)) ∈ TB := tb_t (tl_2 234 rfl) rfl
theorem w2_236 : (Jvm.Cond.instanceMethod ({ cls := "TeethForCoins", name := "addDrawn", desc := "(IJ)V" } : Jvm.MethodName)) ∈ TB := tb_t (tl_2 236 rfl) rfl
theorem w2_237 : (Jvm.Cond.code ({ cls := "TeethForCoins", name := "addDrawn", desc := "(IJ)V" } : Jvm.MethodName) prog_1_method_52_code (6 : Nat) (Option.none : Option Jvm.ClassFile.FieldType)) ∈ TB := tb_t (tl_2 237 rfl) rfl
theorem w2_238 : (Jvm.Cond.constantLong "TeethForCoins" (322 : Nat) (9 : Int64)) ∈ TB := tb_t (tl_2 238 rfl) rfl
theorem w2_239 : (Jvm.Cond.constantLong "TeethForCoins" (324 : Nat) (2 : Int64)) ∈ TB := tb_t (tl_2 239 rfl) rfl
theorem w3_0 : (Jvm.Cond.methodLink "TeethForCoinsLaw" (95 : Nat) ({ cls := "TeethForCoins", name := "washed", desc := "(IJ)I" } : Jvm.MethodName)) ∈ TB := tb_t (tl_3 0 rfl) rfl
theorem w3_1 : (Jvm.Cond.instanceMethod ({ cls := "TeethForCoins", name := "washed", desc := "(IJ)I" } : Jvm.MethodName)) ∈ TB := tb_t (tl_3 1 rfl) rfl
theorem w3_2 : (Jvm.Cond.selects "TeethForCoins" ({ cls := "TeethForCoins", name := "washed", desc := "(IJ)I" } : Jvm.MethodName) ({ cls := "TeethForCoins", name := "washed", desc := "(IJ)I" } : Jvm.MethodName)) ∈ TB := tb_t (tl_3 2 rfl) rfl
theorem w3_3 : (Jvm.Cond.code ({ cls := "TeethForCoins", name := "washed", desc := "(IJ)I" } : Jvm.MethodName) prog_1_method_20_code (7 : Nat) (Option.some Jvm.ClassFile.FieldType.int)) ∈ TB := tb_t (tl_3 3 rfl) rfl
theorem w3_4 : (Jvm.Cond.methodLink "TeethForCoinsLaw" (99 : Nat) ({ cls := "TeethForCoins", name := "life", desc := "(II)I" } : Jvm.MethodName)) ∈ TB := tb_t (tl_3 4 rfl) rfl
theorem w3_5 : (Jvm.Cond.instanceMethod ({ cls := "TeethForCoins", name := "life", desc := "(II)I" } : Jvm.MethodName)) ∈ TB := tb_t (tl_3 5 rfl) rfl
theorem w3_6 : (Jvm.Cond.selects "TeethForCoins" ({ cls := "TeethForCoins", name := "life", desc := "(II)I" } : Jvm.MethodName) ({ cls := "TeethForCoins", name := "life", desc := "(II)I" } : Jvm.MethodName)) ∈ TB := tb_t (tl_3 6 rfl) rfl
theorem w3_7 : (Jvm.Cond.code ({ cls := "TeethForCoins", name := "life", desc := "(II)I" } : Jvm.MethodName) prog_1_method_21_code (5 : Nat) (Option.some Jvm.ClassFile.FieldType.int)) ∈ TB := tb_t (tl_3 7 rfl) rfl
theorem w3_8 : (Jvm.Cond.methodLink "TeethForCoinsLaw" (103 : Nat) ({ cls := "TeethForCoins", name := "trace", desc := "(II)I" } : Jvm.MethodName)) ∈ TB := tb_t (tl_3 8 rfl) rfl
theorem w3_9 : (Jvm.Cond.instanceMethod ({ cls := "TeethForCoins", name := "trace", desc := "(II)I" } : Jvm.MethodName)) ∈ TB := tb_t (tl_3 9 rfl) rfl
theorem w3_10 : (Jvm.Cond.selects "TeethForCoins" ({ cls := "TeethForCoins", name := "trace", desc := "(II)I" } : Jvm.MethodName) ({ cls := "TeethForCoins", name := "trace", desc := "(II)I" } : Jvm.MethodName)) ∈ TB := tb_t (tl_3 10 rfl) rfl
theorem w3_11 : (Jvm.Cond.code ({ cls := "TeethForCoins", name := "trace", desc := "(II)I" } : Jvm.MethodName) prog_1_method_22_code (3 : Nat) (Option.some Jvm.ClassFile.FieldType.int)) ∈ TB := tb_t (tl_3 11 rfl) rfl
theorem w3_14 : (Jvm.Cond.instanceMethod ({ cls := "TeethForCoins$Teeth", name := "traceOf", desc := "(II)I" } : Jvm.MethodName)) ∈ TB := tb_t (tl_3 14 rfl) rfl
theorem w3_15 : (Jvm.Cond.code ({ cls := "TeethForCoins$Teeth", name := "traceOf", desc := "(II)I" } : Jvm.MethodName) prog_8_method_6_code (3 : Nat) (Option.some Jvm.ClassFile.FieldType.int)) ∈ TB := tb_t (tl_3 15 rfl) rfl
theorem w3_16 : (Jvm.Cond.methodLink "TeethForCoinsLaw" (107 : Nat) ({ cls := "TeethForCoins", name := "inflated", desc := "(II)I" } : Jvm.MethodName)) ∈ TB := tb_t (tl_3 16 rfl) rfl
theorem w3_17 : (Jvm.Cond.instanceMethod ({ cls := "TeethForCoins", name := "inflated", desc := "(II)I" } : Jvm.MethodName)) ∈ TB := tb_t (tl_3 17 rfl) rfl
theorem w3_18 : (Jvm.Cond.selects "TeethForCoins" ({ cls := "TeethForCoins", name := "inflated", desc := "(II)I" } : Jvm.MethodName) ({ cls := "TeethForCoins", name := "inflated", desc := "(II)I" } : Jvm.MethodName)) ∈ TB := tb_t (tl_3 18 rfl) rfl
theorem w3_19 : (Jvm.Cond.code ({ cls := "TeethForCoins", name := "inflated", desc := "(II)I" } : Jvm.MethodName) prog_1_method_23_code (4 : Nat) (Option.some Jvm.ClassFile.FieldType.int)) ∈ TB := tb_t (tl_3 19 rfl) rfl
theorem w3_20 : (Jvm.Cond.methodLink "TeethForCoinsLaw" (111 : Nat) ({ cls := "TeethForCoins", name := "doubt", desc := "(IIIIIZ)J" } : Jvm.MethodName)) ∈ TB := tb_t (tl_3 20 rfl) rfl
theorem w3_21 : (Jvm.Cond.instanceMethod ({ cls := "TeethForCoins", name := "doubt", desc := "(IIIIIZ)J" } : Jvm.MethodName)) ∈ TB := tb_t (tl_3 21 rfl) rfl
theorem w3_22 : (Jvm.Cond.selects "TeethForCoins" ({ cls := "TeethForCoins", name := "doubt", desc := "(IIIIIZ)J" } : Jvm.MethodName) ({ cls := "TeethForCoins", name := "doubt", desc := "(IIIIIZ)J" } : Jvm.MethodName)) ∈ TB := tb_t (tl_3 22 rfl) rfl
theorem w3_23 : (Jvm.Cond.code ({ cls := "TeethForCoins", name := "doubt", desc := "(IIIIIZ)J" } : Jvm.MethodName) prog_1_method_24_code (11 : Nat) (Option.some Jvm.ClassFile.FieldType.long)) ∈ TB := tb_t (tl_3 23 rfl) rfl
theorem w3_24 : (Jvm.Cond.methodLink "TeethForCoins" (230 : Nat) ({ cls := "TeethForCoins", name := "isTenths", desc := "(I)Z" } : Jvm.MethodName)) ∈ TB := tb_t (tl_3 24 rfl) rfl
theorem w3_25 : (Jvm.Cond.static ({ cls := "TeethForCoins", name := "isTenths", desc := "(I)Z" } : Jvm.MethodName)) ∈ TB := tb_t (tl_3 25 rfl) rfl
theorem w3_26 : (Jvm.Cond.code ({ cls := "TeethForCoins", name := "isTenths", desc := "(I)Z" } : Jvm.MethodName) prog_1_method_40_code (1 : Nat) (Option.some Jvm.ClassFile.FieldType.boolean)) ∈ TB := tb_t (tl_3 26 rfl) rfl
theorem w3_27 : (Jvm.Cond.constantLong "TeethForCoins" (233 : Nat) (-2 : Int64)) ∈ TB := tb_t (tl_3 27 rfl) rfl
theorem w3_28 : (Jvm.Cond.methodLink "TeethForCoins" (235 : Nat) ({ cls := "TeethForCoins", name := "power", desc := "(JI)J" } : Jvm.MethodName)) ∈ TB := tb_t (tl_3 28 rfl) rfl
theorem w3_29 : (Jvm.Cond.static ({ cls := "TeethForCoins", name := "power", desc := "(JI)J" } : Jvm.MethodName)) ∈ TB := tb_t (tl_3 29 rfl) rfl
theorem w3_30 : (Jvm.Cond.code ({ cls := "TeethForCoins", name := "power", desc := "(JI)J" } : Jvm.MethodName) prog_1_method_53_code (6 : Nat) (Option.some Jvm.ClassFile.FieldType.long)) ∈ TB := tb_t (tl_3 30 rfl) rfl
theorem w3_31 : (Jvm.Cond.constantLong "TeethForCoins" (239 : Nat) (-3 : Int64)) ∈ TB := tb_t (tl_3 31 rfl) rfl
theorem w3_32 : (Jvm.Cond.methodLink "TeethForCoins" (241 : Nat) ({ cls := "TeethForCoins", name := "ofFraction", desc := "(JJZ)J" } : Jvm.MethodName)) ∈ TB := tb_t (tl_3 32 rfl) rfl
theorem w3_33 : (Jvm.Cond.static ({ cls := "TeethForCoins", name := "ofFraction", desc := "(JJZ)J" } : Jvm.MethodName)) ∈ TB := tb_t (tl_3 33 rfl) rfl
theorem w3_34 : (Jvm.Cond.code ({ cls := "TeethForCoins", name := "ofFraction", desc := "(JJZ)J" } : Jvm.MethodName) prog_1_method_54_code (7 : Nat) (Option.some Jvm.ClassFile.FieldType.long)) ∈ TB := tb_t (tl_3 34 rfl) rfl
theorem w3_35 : (Jvm.Cond.methodLink "TeethForCoins" (326 : Nat) ({ cls := "TeethForCoins", name := "commonDivisor", desc := "(JJ)J" } : Jvm.MethodName)) ∈ TB := tb_t (tl_3 35 rfl) rfl
theorem w3_36 : (Jvm.Cond.static ({ cls := "TeethForCoins", name := "commonDivisor", desc := "(JJ)J" } : Jvm.MethodName)) ∈ TB := tb_t (tl_3 36 rfl) rfl
theorem w3_37 : (Jvm.Cond.code ({ cls := "TeethForCoins", name := "commonDivisor", desc := "(JJ)J" } : Jvm.MethodName) prog_1_method_55_code (11 : Nat) (Option.some Jvm.ClassFile.FieldType.long)) ∈ TB := tb_t (tl_3 37 rfl) rfl
theorem w3_38 : (Jvm.Cond.methodLink "TeethForCoinsLaw" (116 : Nat) ({ cls := "TeethForCoins", name := "among", desc := "(IIIZ)J" } : Jvm.MethodName)) ∈ TB := tb_t (tl_3 38 rfl) rfl
theorem w3_39 : (Jvm.Cond.instanceMethod ({ cls := "TeethForCoins", name := "among", desc := "(IIIZ)J" } : Jvm.MethodName)) ∈ TB := tb_t (tl_3 39 rfl) rfl
theorem w3_40 : (Jvm.Cond.selects "TeethForCoins" ({ cls := "TeethForCoins", name := "among", desc := "(IIIZ)J" } : Jvm.MethodName) ({ cls := "TeethForCoins", name := "among", desc := "(IIIZ)J" } : Jvm.MethodName)) ∈ TB := tb_t (tl_3 40 rfl) rfl
theorem w3_41 : (Jvm.Cond.code ({ cls := "TeethForCoins", name := "among", desc := "(IIIZ)J" } : Jvm.MethodName) prog_1_method_25_code (10 : Nat) (Option.some Jvm.ClassFile.FieldType.long)) ∈ TB := tb_t (tl_3 41 rfl) rfl
theorem w3_42 : (Jvm.Cond.constantLong "TeethForCoins" (245 : Nat) (10 : Int64)) ∈ TB := tb_t (tl_3 42 rfl) rfl
theorem w3_43 : (Jvm.Cond.methodLink "TeethForCoinsLaw" (121 : Nat) ({ cls := "TeethForCoins", name := "rate", desc := "(IIII)I" } : Jvm.MethodName)) ∈ TB := tb_t (tl_3 43 rfl) rfl
theorem w3_44 : (Jvm.Cond.instanceMethod ({ cls := "TeethForCoins", name := "rate", desc := "(IIII)I" } : Jvm.MethodName)) ∈ TB := tb_t (tl_3 44 rfl) rfl
theorem w3_45 : (Jvm.Cond.selects "TeethForCoins" ({ cls := "TeethForCoins", name := "rate", desc := "(IIII)I" } : Jvm.MethodName) ({ cls := "TeethForCoins", name := "rate", desc := "(IIII)I" } : Jvm.MethodName)) ∈ TB := tb_t (tl_3 45 rfl) rfl
theorem w3_46 : (Jvm.Cond.code ({ cls := "TeethForCoins", name := "rate", desc := "(IIII)I" } : Jvm.MethodName) prog_1_method_26_code (6 : Nat) (Option.some Jvm.ClassFile.FieldType.int)) ∈ TB := tb_t (tl_3 46 rfl) rfl
theorem w3_47 : (Jvm.Cond.methodLink "TeethForCoins" (247 : Nat) ({ cls := "TeethForCoins", name := "isMoney", desc := "(I)Z" } : Jvm.MethodName)) ∈ TB := tb_t (tl_3 47 rfl) rfl
theorem w3_48 : (Jvm.Cond.static ({ cls := "TeethForCoins", name := "isMoney", desc := "(I)Z" } : Jvm.MethodName)) ∈ TB := tb_t (tl_3 48 rfl) rfl
theorem w3_49 : (Jvm.Cond.code ({ cls := "TeethForCoins", name := "isMoney", desc := "(I)Z" } : Jvm.MethodName) prog_1_method_38_code (1 : Nat) (Option.some Jvm.ClassFile.FieldType.boolean)) ∈ TB := tb_t (tl_3 49 rfl) rfl
theorem w3_52 : (Jvm.Cond.instanceMethod ({ cls := "TeethForCoins$Rates", name := "gotFor", desc := "(II)I" } : Jvm.MethodName)) ∈ TB := tb_t (tl_3 52 rfl) rfl
theorem w3_53 : (Jvm.Cond.code ({ cls := "TeethForCoins$Rates", name := "gotFor", desc := "(II)I" } : Jvm.MethodName) prog_5_method_2_code (4 : Nat) (Option.some Jvm.ClassFile.FieldType.int)) ∈ TB := tb_t (tl_3 53 rfl) rfl
theorem w3_56 : (Jvm.Cond.instanceMethod ({ cls := "TeethForCoins$Rates", name := "givenFor", desc := "(II)I" } : Jvm.MethodName)) ∈ TB := tb_t (tl_3 56 rfl) rfl
theorem w3_57 : (Jvm.Cond.code ({ cls := "TeethForCoins$Rates", name := "givenFor", desc := "(II)I" } : Jvm.MethodName) prog_5_method_3_code (4 : Nat) (Option.some Jvm.ClassFile.FieldType.int)) ∈ TB := tb_t (tl_3 57 rfl) rfl
theorem w3_60 : (Jvm.Cond.instanceMethod ({ cls := "TeethForCoins$Rates", name := "put", desc := "(IIII)V" } : Jvm.MethodName)) ∈ TB := tb_t (tl_3 60 rfl) rfl
theorem w3_61 : (Jvm.Cond.code ({ cls := "TeethForCoins$Rates", name := "put", desc := "(IIII)V" } : Jvm.MethodName) prog_5_method_4_code (6 : Nat) (Option.none : Option Jvm.ClassFile.FieldType)) ∈ TB := tb_t (tl_3 61 rfl) rfl
theorem w3_62 : (Jvm.Cond.methodLink "TeethForCoinsLaw" (126 : Nat) ({ cls := "TeethForCoins", name := "ring", desc := "(Z)J" } : Jvm.MethodName)) ∈ TB := tb_t (tl_3 62 rfl) rfl
theorem w3_63 : (Jvm.Cond.instanceMethod ({ cls := "TeethForCoins", name := "ring", desc := "(Z)J" } : Jvm.MethodName)) ∈ TB := tb_t (tl_3 63 rfl) rfl
theorem w3_64 : (Jvm.Cond.selects "TeethForCoins" ({ cls := "TeethForCoins", name := "ring", desc := "(Z)J" } : Jvm.MethodName) ({ cls := "TeethForCoins", name := "ring", desc := "(Z)J" } : Jvm.MethodName)) ∈ TB := tb_t (tl_3 64 rfl) rfl
theorem w3_65 : (Jvm.Cond.code ({ cls := "TeethForCoins", name := "ring", desc := "(Z)J" } : Jvm.MethodName) prog_1_method_27_code (2 : Nat) (Option.some Jvm.ClassFile.FieldType.long)) ∈ TB := tb_t (tl_3 65 rfl) rfl
theorem w3_66 : (Jvm.Cond.methodLink "TeethForCoins" (260 : Nat) ({ cls := "TeethForCoins", name := "seekRing", desc := "()V" } : Jvm.MethodName)) ∈ TB := tb_t (tl_3 66 rfl) rfl
theorem w3_68 : (Jvm.Cond.instanceMethod ({ cls := "TeethForCoins", name := "seekRing", desc := "()V" } : Jvm.MethodName)) ∈ TB := tb_t (tl_3 68 rfl) rfl
theorem w3_69 : (Jvm.Cond.code ({ cls := "TeethForCoins", name := "seekRing", desc := "()V" } : Jvm.MethodName) prog_1_method_56_code (4 : Nat) (Option.none : Option Jvm.ClassFile.FieldType)) ∈ TB := tb_t (tl_3 69 rfl) rfl
theorem w3_72 : (Jvm.Cond.instanceMethod ({ cls := "TeethForCoins$Ring", name := "clear", desc := "()V" } : Jvm.MethodName)) ∈ TB := tb_t (tl_3 72 rfl) rfl
theorem w3_73 : (Jvm.Cond.code ({ cls := "TeethForCoins$Ring", name := "clear", desc := "()V" } : Jvm.MethodName) prog_6_method_2_code (1 : Nat) (Option.none : Option Jvm.ClassFile.FieldType)) ∈ TB := tb_t (tl_3 73 rfl) rfl
theorem w3_75 : (Jvm.Cond.static ({ cls := "TeethForCoins$Ring", name := "isRing", desc := "(II)Z" } : Jvm.MethodName)) ∈ TB := tb_t (tl_3 75 rfl) rfl
theorem w3_76 : (Jvm.Cond.code ({ cls := "TeethForCoins$Ring", name := "isRing", desc := "(II)Z" } : Jvm.MethodName) prog_6_method_4_code (6 : Nat) (Option.some Jvm.ClassFile.FieldType.boolean)) ∈ TB := tb_t (tl_3 76 rfl) rfl
theorem w3_77 : (Jvm.Cond.methodLink "TeethForCoins$Ring" (23 : Nat) ({ cls := "TeethForCoins$Ring", name := "moneyAt", desc := "(III)I" } : Jvm.MethodName)) ∈ TB := tb_t (tl_3 77 rfl) rfl
theorem w3_78 : (Jvm.Cond.static ({ cls := "TeethForCoins$Ring", name := "moneyAt", desc := "(III)I" } : Jvm.MethodName)) ∈ TB := tb_t (tl_3 78 rfl) rfl
theorem w3_79 : (Jvm.Cond.code ({ cls := "TeethForCoins$Ring", name := "moneyAt", desc := "(III)I" } : Jvm.MethodName) prog_6_method_3_code (3 : Nat) (Option.some Jvm.ClassFile.FieldType.int)) ∈ TB := tb_t (tl_3 79 rfl) rfl
theorem w3_82 : (Jvm.Cond.instanceMethod ({ cls := "TeethForCoins$Ring", name := "offer", desc := "(LTeethForCoins$Rates;II)V" } : Jvm.MethodName)) ∈ TB := tb_t (tl_3 82 rfl) rfl
theorem w3_83 : (Jvm.Cond.code ({ cls := "TeethForCoins$Ring", name := "offer", desc := "(LTeethForCoins$Rates;II)V" } : Jvm.MethodName) prog_6_method_5_code (11 : Nat) (Option.none : Option Jvm.ClassFile.FieldType)) ∈ TB := tb_t (tl_3 83 rfl) rfl
theorem w3_86 : (Jvm.Cond.methodLink "TeethForCoinsLaw" (131 : Nat) ({ cls := "TeethForCoins", name := "ringAt", desc := "(I)I" } : Jvm.MethodName)) ∈ TB := tb_t (tl_3 86 rfl) rfl
theorem w3_87 : (Jvm.Cond.instanceMethod ({ cls := "TeethForCoins", name := "ringAt", desc := "(I)I" } : Jvm.MethodName)) ∈ TB := tb_t (tl_3 87 rfl) rfl
theorem w3_88 : (Jvm.Cond.selects "TeethForCoins" ({ cls := "TeethForCoins", name := "ringAt", desc := "(I)I" } : Jvm.MethodName) ({ cls := "TeethForCoins", name := "ringAt", desc := "(I)I" } : Jvm.MethodName)) ∈ TB := tb_t (tl_3 88 rfl) rfl
theorem w3_89 : (Jvm.Cond.code ({ cls := "TeethForCoins", name := "ringAt", desc := "(I)I" } : Jvm.MethodName) prog_1_method_28_code (2 : Nat) (Option.some Jvm.ClassFile.FieldType.int)) ∈ TB := tb_t (tl_3 89 rfl) rfl
theorem w3_91 : (Jvm.Cond.methodLink "TeethForCoinsLaw" (135 : Nat) ({ cls := "TeethForCoins", name := "should", desc := "(II)I" } : Jvm.MethodName)) ∈ TB := tb_t (tl_3 91 rfl) rfl
theorem w3_92 : (Jvm.Cond.instanceMethod ({ cls := "TeethForCoins", name := "should", desc := "(II)I" } : Jvm.MethodName)) ∈ TB := tb_t (tl_3 92 rfl) rfl
theorem w3_93 : (Jvm.Cond.selects "TeethForCoins" ({ cls := "TeethForCoins", name := "should", desc := "(II)I" } : Jvm.MethodName) ({ cls := "TeethForCoins", name := "should", desc := "(II)I" } : Jvm.MethodName)) ∈ TB := tb_t (tl_3 93 rfl) rfl
theorem w3_94 : (Jvm.Cond.code ({ cls := "TeethForCoins", name := "should", desc := "(II)I" } : Jvm.MethodName) prog_1_method_29_code (4 : Nat) (Option.some Jvm.ClassFile.FieldType.int)) ∈ TB := tb_t (tl_3 94 rfl) rfl
theorem w3_95 : (Jvm.Cond.methodLink "TeethForCoinsLaw" (139 : Nat) ({ cls := "TeethForCoins", name := "stolen", desc := "()I" } : Jvm.MethodName)) ∈ TB := tb_t (tl_3 95 rfl) rfl
theorem w3_96 : (Jvm.Cond.instanceMethod ({ cls := "TeethForCoins", name := "stolen", desc := "()I" } : Jvm.MethodName)) ∈ TB := tb_t (tl_3 96 rfl) rfl
theorem w3_97 : (Jvm.Cond.selects "TeethForCoins" ({ cls := "TeethForCoins", name := "stolen", desc := "()I" } : Jvm.MethodName) ({ cls := "TeethForCoins", name := "stolen", desc := "()I" } : Jvm.MethodName)) ∈ TB := tb_t (tl_3 97 rfl) rfl
theorem w3_98 : (Jvm.Cond.code ({ cls := "TeethForCoins", name := "stolen", desc := "()I" } : Jvm.MethodName) prog_1_method_30_code (3 : Nat) (Option.some Jvm.ClassFile.FieldType.int)) ∈ TB := tb_t (tl_3 98 rfl) rfl
theorem w3_101 : (Jvm.Cond.instanceMethod ({ cls := "TeethForCoins$Teeth", name := "wearTooMuch", desc := "(I)I" } : Jvm.MethodName)) ∈ TB := tb_t (tl_3 101 rfl) rfl
theorem w3_102 : (Jvm.Cond.code ({ cls := "TeethForCoins$Teeth", name := "wearTooMuch", desc := "(I)I" } : Jvm.MethodName) prog_8_method_10_code (2 : Nat) (Option.some Jvm.ClassFile.FieldType.int)) ∈ TB := tb_t (tl_3 102 rfl) rfl
theorem w3_103 : (Jvm.Cond.methodLink "TeethForCoins$Teeth" (36 : Nat) ({ cls := "java/lang/Math", name := "max", desc := "(II)I" } : Jvm.MethodName)) ∈ TB := tb_t (tl_3 103 rfl) rfl
theorem w3_104 : (Jvm.Cond.methodLink "TeethForCoinsLaw" (143 : Nat) ({ cls := "TeethForCoins", name := "thief", desc := "()I" } : Jvm.MethodName)) ∈ TB := tb_t (tl_3 104 rfl) rfl
theorem w3_105 : (Jvm.Cond.instanceMethod ({ cls := "TeethForCoins", name := "thief", desc := "()I" } : Jvm.MethodName)) ∈ TB := tb_t (tl_3 105 rfl) rfl
theorem w3_106 : (Jvm.Cond.selects "TeethForCoins" ({ cls := "TeethForCoins", name := "thief", desc := "()I" } : Jvm.MethodName) ({ cls := "TeethForCoins", name := "thief", desc := "()I" } : Jvm.MethodName)) ∈ TB := tb_t (tl_3 106 rfl) rfl
theorem w3_107 : (Jvm.Cond.code ({ cls := "TeethForCoins", name := "thief", desc := "()I" } : Jvm.MethodName) prog_1_method_31_code (5 : Nat) (Option.some Jvm.ClassFile.FieldType.int)) ∈ TB := tb_t (tl_3 107 rfl) rfl
theorem w3_110 : (Jvm.Cond.instanceMethod ({ cls := "TeethForCoins$Teeth", name := "wearTooMuchOf", desc := "(I)I" } : Jvm.MethodName)) ∈ TB := tb_t (tl_3 110 rfl) rfl
theorem w3_111 : (Jvm.Cond.code ({ cls := "TeethForCoins$Teeth", name := "wearTooMuchOf", desc := "(I)I" } : Jvm.MethodName) prog_8_method_11_code (4 : Nat) (Option.some Jvm.ClassFile.FieldType.int)) ∈ TB := tb_t (tl_3 111 rfl) rfl
theorem w3_112 : (Jvm.Cond.methodLink "TeethForCoins$Teeth" (39 : Nat) ({ cls := "TeethForCoins$Teeth", name := "wearTooMuch", desc := "(I)I" } : Jvm.MethodName)) ∈ TB := tb_t (tl_3 112 rfl) rfl
theorem w3_113 : (Jvm.Cond.methodLink "TeethForCoinsLaw" (147 : Nat) ({ cls := "TeethForCoins", name := "keep", desc := "(I)I" } : Jvm.MethodName)) ∈ TB := tb_t (tl_3 113 rfl) rfl
theorem w3_114 : (Jvm.Cond.instanceMethod ({ cls := "TeethForCoins", name := "keep", desc := "(I)I" } : Jvm.MethodName)) ∈ TB := tb_t (tl_3 114 rfl) rfl
theorem w3_115 : (Jvm.Cond.selects "TeethForCoins" ({ cls := "TeethForCoins", name := "keep", desc := "(I)I" } : Jvm.MethodName) ({ cls := "TeethForCoins", name := "keep", desc := "(I)I" } : Jvm.MethodName)) ∈ TB := tb_t (tl_3 115 rfl) rfl
theorem w3_116 : (Jvm.Cond.code ({ cls := "TeethForCoins", name := "keep", desc := "(I)I" } : Jvm.MethodName) prog_1_method_32_code (2 : Nat) (Option.some Jvm.ClassFile.FieldType.int)) ∈ TB := tb_t (tl_3 116 rfl) rfl
theorem w3_117 : (Jvm.Cond.methodLink "TeethForCoins" (285 : Nat) ({ cls := "TeethForCoins", name := "isSlot", desc := "(I)Z" } : Jvm.MethodName)) ∈ TB := tb_t (tl_3 117 rfl) rfl
theorem w3_119 : (Jvm.Cond.instanceMethod ({ cls := "TeethForCoins", name := "isSlot", desc := "(I)Z" } : Jvm.MethodName)) ∈ TB := tb_t (tl_3 119 rfl) rfl
theorem w3_120 : (Jvm.Cond.code ({ cls := "TeethForCoins", name := "isSlot", desc := "(I)Z" } : Jvm.MethodName) prog_1_method_36_code (2 : Nat) (Option.some Jvm.ClassFile.FieldType.boolean)) ∈ TB := tb_t (tl_3 120 rfl) rfl
theorem w3_123 : (Jvm.Cond.instanceMethod ({ cls := "TeethForCoins$Slot", name := "takeIn", desc := "(LTeethForCoins$Teeth;LTeethForCoins$Bargains;LTeethForCoins$Rates;)V" } : Jvm.MethodName)) ∈ TB := tb_t (tl_3 123 rfl) rfl
theorem w3_124 : (Jvm.Cond.code ({ cls := "TeethForCoins$Slot", name := "takeIn", desc := "(LTeethForCoins$Teeth;LTeethForCoins$Bargains;LTeethForCoins$Rates;)V" } : Jvm.MethodName) prog_7_method_2_code (4 : Nat) (Option.none : Option Jvm.ClassFile.FieldType)) ∈ TB := tb_t (tl_3 124 rfl) rfl
theorem w3_128 : (Jvm.Cond.instanceMethod ({ cls := "TeethForCoins$Bargains", name := "copyFrom", desc := "(LTeethForCoins$Bargains;)V" } : Jvm.MethodName)) ∈ TB := tb_t (tl_3 128 rfl) rfl
theorem w3_129 : (Jvm.Cond.code ({ cls := "TeethForCoins$Bargains", name := "copyFrom", desc := "(LTeethForCoins$Bargains;)V" } : Jvm.MethodName) prog_2_method_4_code (3 : Nat) (Option.none : Option Jvm.ClassFile.FieldType)) ∈ TB := tb_t (tl_3 129 rfl) rfl
theorem w3_132 : (Jvm.Cond.instanceMethod ({ cls := "TeethForCoins$Rates", name := "copyFrom", desc := "(LTeethForCoins$Rates;)V" } : Jvm.MethodName)) ∈ TB := tb_t (tl_3 132 rfl) rfl
theorem w3_133 : (Jvm.Cond.code ({ cls := "TeethForCoins$Rates", name := "copyFrom", desc := "(LTeethForCoins$Rates;)V" } : Jvm.MethodName) prog_5_method_5_code (2 : Nat) (Option.none : Option Jvm.ClassFile.FieldType)) ∈ TB := tb_t (tl_3 133 rfl) rfl
theorem w3_134 : (Jvm.Cond.methodLink "TeethForCoins$Rates" (24 : Nat) ({ cls := "java/lang/Math", name := "min", desc := "(II)I" } : Jvm.MethodName)) ∈ TB := tb_t (tl_3 134 rfl) rfl
theorem w3_135 : (Jvm.Cond.methodLink "TeethForCoins$Rates" (30 : Nat) ({ cls := "java/lang/System", name := "arraycopy", desc := "(Ljava/lang/Object;ILjava/lang/Object;II)V" } : Jvm.MethodName)) ∈ TB := tb_t (tl_3 135 rfl) rfl
theorem w3_136 : (Jvm.Cond.methodLink "TeethForCoinsLaw" (151 : Nat) ({ cls := "TeethForCoins", name := "again", desc := "(I)I" } : Jvm.MethodName)) ∈ TB := tb_t (tl_3 136 rfl) rfl
theorem w3_137 : (Jvm.Cond.instanceMethod ({ cls := "TeethForCoins", name := "again", desc := "(I)I" } : Jvm.MethodName)) ∈ TB := tb_t (tl_3 137 rfl) rfl
theorem w3_138 : (Jvm.Cond.selects "TeethForCoins" ({ cls := "TeethForCoins", name := "again", desc := "(I)I" } : Jvm.MethodName) ({ cls := "TeethForCoins", name := "again", desc := "(I)I" } : Jvm.MethodName)) ∈ TB := tb_t (tl_3 138 rfl) rfl
theorem w3_139 : (Jvm.Cond.code ({ cls := "TeethForCoins", name := "again", desc := "(I)I" } : Jvm.MethodName) prog_1_method_33_code (2 : Nat) (Option.some Jvm.ClassFile.FieldType.int)) ∈ TB := tb_t (tl_3 139 rfl) rfl
theorem w3_142 : (Jvm.Cond.instanceMethod ({ cls := "TeethForCoins$Slot", name := "giveOut", desc := "(LTeethForCoins$Teeth;LTeethForCoins$Bargains;LTeethForCoins$Rates;)V" } : Jvm.MethodName)) ∈ TB := tb_t (tl_3 142 rfl) rfl
theorem w3_143 : (Jvm.Cond.code ({ cls := "TeethForCoins$Slot", name := "giveOut", desc := "(LTeethForCoins$Teeth;LTeethForCoins$Bargains;LTeethForCoins$Rates;)V" } : Jvm.MethodName) prog_7_method_3_code (4 : Nat) (Option.none : Option Jvm.ClassFile.FieldType)) ∈ TB := tb_t (tl_3 143 rfl) rfl
theorem w3_150 : (Jvm.Cond.fieldLink "TeethForCoinsModel" (108 : Nat) "TeethForCoinsModel" "thrown" "I") ∈ TB := tb_t (tl_3 150 rfl) rfl
theorem w3_151 : (Jvm.Cond.fieldLink "TeethForCoinsModel" (7 : Nat) "TeethForCoinsModel" "text" "[I") ∈ TB := tb_t (tl_3 151 rfl) rfl
theorem w3_152 : (Jvm.Cond.fieldLink "TeethForCoinsModel" (122 : Nat) "TeethForCoinsModel" "textSize" "I") ∈ TB := tb_t (tl_3 152 rfl) rfl
theorem w3_153 : (Jvm.Cond.fieldLink "TeethForCoinsModel" (125 : Nat) "TeethForCoinsModel" "place" "I") ∈ TB := tb_t (tl_3 153 rfl) rfl
theorem w3_154 : (Jvm.Cond.fieldLink "TeethForCoinsModel" (13 : Nat) "TeethForCoinsModel" "loss" "I") ∈ TB := tb_t (tl_3 154 rfl) rfl
theorem w3_155 : (Jvm.Cond.fieldLink "TeethForCoinsModel" (17 : Nat) "TeethForCoinsModel" "times" "I") ∈ TB := tb_t (tl_3 155 rfl) rfl
theorem w3_156 : (Jvm.Cond.fieldLink "TeethForCoinsModel" (111 : Nat) "TeethForCoinsModel" "teeth" "I") ∈ TB := tb_t (tl_3 156 rfl) rfl
theorem w3_157 : (Jvm.Cond.fieldLink "TeethForCoinsModel" (20 : Nat) "TeethForCoinsModel" "size" "[I") ∈ TB := tb_t (tl_3 157 rfl) rfl
theorem w3_158 : (Jvm.Cond.fieldLink "TeethForCoinsModel" (23 : Nat) "TeethForCoinsModel" "left" "[Z") ∈ TB := tb_t (tl_3 158 rfl) rfl
theorem w3_159 : (Jvm.Cond.fieldLink "TeethForCoinsModel" (27 : Nat) "TeethForCoinsModel" "wear" "[I") ∈ TB := tb_t (tl_3 159 rfl) rfl
theorem w3_160 : (Jvm.Cond.fieldLink "TeethForCoinsModel" (30 : Nat) "TeethForCoinsModel" "owner" "[I") ∈ TB := tb_t (tl_3 160 rfl) rfl
theorem w3_161 : (Jvm.Cond.fieldLink "TeethForCoinsModel" (33 : Nat) "TeethForCoinsModel" "fake" "[Z") ∈ TB := tb_t (tl_3 161 rfl) rfl
theorem w3_162 : (Jvm.Cond.fieldLink "TeethForCoinsModel" (36 : Nat) "TeethForCoinsModel" "should" "[I") ∈ TB := tb_t (tl_3 162 rfl) rfl
theorem w3_163 : (Jvm.Cond.fieldLink "TeethForCoinsModel" (39 : Nat) "TeethForCoinsModel" "traces" "[I") ∈ TB := tb_t (tl_3 163 rfl) rfl
theorem w3_164 : (Jvm.Cond.fieldLink "TeethForCoinsModel" (42 : Nat) "TeethForCoinsModel" "trace" "[I") ∈ TB := tb_t (tl_3 164 rfl) rfl
theorem w3_165 : (Jvm.Cond.fieldLink "TeethForCoinsModel" (162 : Nat) "TeethForCoinsModel" "goods" "I") ∈ TB := tb_t (tl_3 165 rfl) rfl
theorem w3_166 : (Jvm.Cond.fieldLink "TeethForCoinsModel" (45 : Nat) "TeethForCoinsModel" "price" "[I") ∈ TB := tb_t (tl_3 166 rfl) rfl
theorem w3_167 : (Jvm.Cond.fieldLink "TeethForCoinsModel" (48 : Nat) "TeethForCoinsModel" "use" "[I") ∈ TB := tb_t (tl_3 167 rfl) rfl
theorem w3_168 : (Jvm.Cond.fieldLink "TeethForCoinsModel" (150 : Nat) "TeethForCoinsModel" "readLoss" "I") ∈ TB := tb_t (tl_3 168 rfl) rfl
theorem w3_169 : (Jvm.Cond.fieldLink "TeethForCoinsModel" (153 : Nat) "TeethForCoinsModel" "readTimes" "I") ∈ TB := tb_t (tl_3 169 rfl) rfl
theorem w3_170 : (Jvm.Cond.fieldLink "TeethForCoinsModel" (136 : Nat) "TeethForCoinsModel" "readTeeth" "I") ∈ TB := tb_t (tl_3 170 rfl) rfl
theorem w3_171 : (Jvm.Cond.fieldLink "TeethForCoinsModel" (139 : Nat) "TeethForCoinsModel" "readGoods" "I") ∈ TB := tb_t (tl_3 171 rfl) rfl
theorem w3_172 : (Jvm.Cond.fieldLink "TeethForCoinsModel" (51 : Nat) "TeethForCoinsModel" "readSize" "[I") ∈ TB := tb_t (tl_3 172 rfl) rfl
theorem w3_173 : (Jvm.Cond.fieldLink "TeethForCoinsModel" (54 : Nat) "TeethForCoinsModel" "readLeft" "[Z") ∈ TB := tb_t (tl_3 173 rfl) rfl
theorem w3_174 : (Jvm.Cond.fieldLink "TeethForCoinsModel" (57 : Nat) "TeethForCoinsModel" "readWear" "[I") ∈ TB := tb_t (tl_3 174 rfl) rfl
theorem w3_175 : (Jvm.Cond.fieldLink "TeethForCoinsModel" (60 : Nat) "TeethForCoinsModel" "readOwner" "[I") ∈ TB := tb_t (tl_3 175 rfl) rfl
theorem w3_176 : (Jvm.Cond.fieldLink "TeethForCoinsModel" (63 : Nat) "TeethForCoinsModel" "readFake" "[Z") ∈ TB := tb_t (tl_3 176 rfl) rfl
theorem w3_177 : (Jvm.Cond.fieldLink "TeethForCoinsModel" (66 : Nat) "TeethForCoinsModel" "readPrice" "[I") ∈ TB := tb_t (tl_3 177 rfl) rfl
theorem w3_178 : (Jvm.Cond.fieldLink "TeethForCoinsModel" (69 : Nat) "TeethForCoinsModel" "readUse" "[I") ∈ TB := tb_t (tl_3 178 rfl) rfl
theorem w3_179 : (Jvm.Cond.fieldLink "TeethForCoinsModel" (72 : Nat) "TeethForCoinsModel" "book" "[I") ∈ TB := tb_t (tl_3 179 rfl) rfl
theorem w3_180 : (Jvm.Cond.fieldLink "TeethForCoinsModel" (169 : Nat) "TeethForCoinsModel" "bargains" "I") ∈ TB := tb_t (tl_3 180 rfl) rfl
theorem w3_181 : (Jvm.Cond.fieldLink "TeethForCoinsModel" (75 : Nat) "TeethForCoinsModel" "above" "[I") ∈ TB := tb_t (tl_3 181 rfl) rfl
theorem w3_182 : (Jvm.Cond.fieldLink "TeethForCoinsModel" (78 : Nat) "TeethForCoinsModel" "below" "[I") ∈ TB := tb_t (tl_3 182 rfl) rfl
theorem w3_183 : (Jvm.Cond.fieldLink "TeethForCoinsModel" (81 : Nat) "TeethForCoinsModel" "keptPage" "[I") ∈ TB := tb_t (tl_3 183 rfl) rfl
theorem w3_184 : (Jvm.Cond.fieldLink "TeethForCoinsModel" (84 : Nat) "TeethForCoinsModel" "keptMore" "[I") ∈ TB := tb_t (tl_3 184 rfl) rfl
theorem w3_185 : (Jvm.Cond.fieldLink "TeethForCoinsModel" (87 : Nat) "TeethForCoinsModel" "keptBook" "[I") ∈ TB := tb_t (tl_3 185 rfl) rfl
theorem w3_186 : (Jvm.Cond.fieldLink "TeethForCoinsModel" (90 : Nat) "TeethForCoinsModel" "keptRates" "[I") ∈ TB := tb_t (tl_3 186 rfl) rfl
theorem w3_187 : (Jvm.Cond.fieldLink "TeethForCoinsModel" (93 : Nat) "TeethForCoinsModel" "isKept" "[Z") ∈ TB := tb_t (tl_3 187 rfl) rfl
theorem w3_188 : (Jvm.Cond.fieldLink "TeethForCoinsModel" (96 : Nat) "TeethForCoinsModel" "keptBargains" "[I") ∈ TB := tb_t (tl_3 188 rfl) rfl
theorem w3_189 : (Jvm.Cond.fieldLink "TeethForCoinsModel" (205 : Nat) "TeethForCoinsModel" "paidSet" "I") ∈ TB := tb_t (tl_3 189 rfl) rfl
theorem w3_190 : (Jvm.Cond.fieldLink "TeethForCoinsModel" (208 : Nat) "TeethForCoinsModel" "changeSet" "I") ∈ TB := tb_t (tl_3 190 rfl) rfl
theorem w3_191 : (Jvm.Cond.fieldLink "TeethForCoinsModel" (234 : Nat) "TeethForCoinsModel" "bestSet" "I") ∈ TB := tb_t (tl_3 191 rfl) rfl
theorem w3_192 : (Jvm.Cond.fieldLink "TeethForCoinsModel" (99 : Nat) "TeethForCoinsModel" "ring" "[I") ∈ TB := tb_t (tl_3 192 rfl) rfl
theorem w3_193 : (Jvm.Cond.fieldLink "TeethForCoinsModel" (102 : Nat) "TeethForCoinsModel" "tried" "[I") ∈ TB := tb_t (tl_3 193 rfl) rfl
theorem w3_194 : (Jvm.Cond.fieldLink "TeethForCoinsModel" (289 : Nat) "TeethForCoinsModel" "ringMany" "I") ∈ TB := tb_t (tl_3 194 rfl) rfl
theorem w3_195 : (Jvm.Cond.fieldLink "TeethForCoinsModel" (279 : Nat) "TeethForCoinsModel" "ringUp" "J") ∈ TB := tb_t (tl_3 195 rfl) rfl
theorem w3_196 : (Jvm.Cond.fieldLink "TeethForCoinsModel" (283 : Nat) "TeethForCoinsModel" "ringDown" "J") ∈ TB := tb_t (tl_3 196 rfl) rfl
theorem w3_197 : (Jvm.Cond.fieldLink "TeethForCoinsModel" (105 : Nat) "TeethForCoinsModel" "can" "[Z") ∈ TB := tb_t (tl_3 197 rfl) rfl
theorem w3_198 : (Jvm.Cond.lays "TeethForCoinsModel" "TeethForCoinsModel" "thrown" "I") ∈ TB := tb_t (tl_3 198 rfl) rfl
theorem w3_200 : (Jvm.Cond.laysFinal "TeethForCoinsModel" "TeethForCoinsModel" "text" "[I") ∈ TB := tb_t (tl_3 200 rfl) rfl
theorem w3_202 : (Jvm.Cond.lays "TeethForCoinsModel" "TeethForCoinsModel" "textSize" "I") ∈ TB := tb_t (tl_3 202 rfl) rfl
theorem w3_204 : (Jvm.Cond.lays "TeethForCoinsModel" "TeethForCoinsModel" "place" "I") ∈ TB := tb_t (tl_3 204 rfl) rfl
theorem w3_206 : (Jvm.Cond.lays "TeethForCoinsModel" "TeethForCoinsModel" "loss" "I") ∈ TB := tb_t (tl_3 206 rfl) rfl
theorem w3_208 : (Jvm.Cond.lays "TeethForCoinsModel" "TeethForCoinsModel" "times" "I") ∈ TB := tb_t (tl_3 208 rfl) rfl
theorem w3_210 : (Jvm.Cond.lays "TeethForCoinsModel" "TeethForCoinsModel" "teeth" "I") ∈ TB := tb_t (tl_3 210 rfl) rfl
theorem w3_212 : (Jvm.Cond.laysFinal "TeethForCoinsModel" "TeethForCoinsModel" "size" "[I") ∈ TB := tb_t (tl_3 212 rfl) rfl
theorem w3_214 : (Jvm.Cond.laysFinal "TeethForCoinsModel" "TeethForCoinsModel" "left" "[Z") ∈ TB := tb_t (tl_3 214 rfl) rfl
theorem w3_216 : (Jvm.Cond.laysFinal "TeethForCoinsModel" "TeethForCoinsModel" "wear" "[I") ∈ TB := tb_t (tl_3 216 rfl) rfl
theorem w3_218 : (Jvm.Cond.laysFinal "TeethForCoinsModel" "TeethForCoinsModel" "owner" "[I") ∈ TB := tb_t (tl_3 218 rfl) rfl
theorem w3_220 : (Jvm.Cond.laysFinal "TeethForCoinsModel" "TeethForCoinsModel" "fake" "[Z") ∈ TB := tb_t (tl_3 220 rfl) rfl
theorem w3_222 : (Jvm.Cond.laysFinal "TeethForCoinsModel" "TeethForCoinsModel" "should" "[I") ∈ TB := tb_t (tl_3 222 rfl) rfl
theorem w3_224 : (Jvm.Cond.laysFinal "TeethForCoinsModel" "TeethForCoinsModel" "traces" "[I") ∈ TB := tb_t (tl_3 224 rfl) rfl
theorem w3_226 : (Jvm.Cond.laysFinal "TeethForCoinsModel" "TeethForCoinsModel" "trace" "[I") ∈ TB := tb_t (tl_3 226 rfl) rfl
theorem w3_228 : (Jvm.Cond.lays "TeethForCoinsModel" "TeethForCoinsModel" "goods" "I") ∈ TB := tb_t (tl_3 228 rfl) rfl
theorem w3_230 : (Jvm.Cond.laysFinal "TeethForCoinsModel" "TeethForCoinsModel" "price" "[I") ∈ TB := tb_t (tl_3 230 rfl) rfl
theorem w3_232 : (Jvm.Cond.laysFinal "TeethForCoinsModel" "TeethForCoinsModel" "use" "[I") ∈ TB := tb_t (tl_3 232 rfl) rfl
theorem w3_234 : (Jvm.Cond.lays "TeethForCoinsModel" "TeethForCoinsModel" "readLoss" "I") ∈ TB := tb_t (tl_3 234 rfl) rfl
theorem w3_236 : (Jvm.Cond.lays "TeethForCoinsModel" "TeethForCoinsModel" "readTimes" "I") ∈ TB := tb_t (tl_3 236 rfl) rfl
theorem w3_238 : (Jvm.Cond.lays "TeethForCoinsModel" "TeethForCoinsModel" "readTeeth" "I") ∈ TB := tb_t (tl_3 238 rfl) rfl
theorem w4_0 : (Jvm.Cond.lays "TeethForCoinsModel" "TeethForCoinsModel" "readGoods" "I") ∈ TB := tb_t (tl_4 0 rfl) rfl
theorem w4_2 : (Jvm.Cond.laysFinal "TeethForCoinsModel" "TeethForCoinsModel" "readSize" "[I") ∈ TB := tb_t (tl_4 2 rfl) rfl
theorem w4_4 : (Jvm.Cond.laysFinal "TeethForCoinsModel" "TeethForCoinsModel" "readLeft" "[Z") ∈ TB := tb_t (tl_4 4 rfl) rfl
theorem w4_6 : (Jvm.Cond.laysFinal "TeethForCoinsModel" "TeethForCoinsModel" "readWear" "[I") ∈ TB := tb_t (tl_4 6 rfl) rfl
theorem w4_8 : (Jvm.Cond.laysFinal "TeethForCoinsModel" "TeethForCoinsModel" "readOwner" "[I") ∈ TB := tb_t (tl_4 8 rfl) rfl
theorem w4_10 : (Jvm.Cond.laysFinal "TeethForCoinsModel" "TeethForCoinsModel" "readFake" "[Z") ∈ TB := tb_t (tl_4 10 rfl) rfl
theorem w4_12 : (Jvm.Cond.laysFinal "TeethForCoinsModel" "TeethForCoinsModel" "readPrice" "[I") ∈ TB := tb_t (tl_4 12 rfl) rfl
theorem w4_14 : (Jvm.Cond.laysFinal "TeethForCoinsModel" "TeethForCoinsModel" "readUse" "[I") ∈ TB := tb_t (tl_4 14 rfl) rfl
theorem w4_16 : (Jvm.Cond.laysFinal "TeethForCoinsModel" "TeethForCoinsModel" "book" "[I") ∈ TB := tb_t (tl_4 16 rfl) rfl
theorem w4_18 : (Jvm.Cond.lays "TeethForCoinsModel" "TeethForCoinsModel" "bargains" "I") ∈ TB := tb_t (tl_4 18 rfl) rfl
theorem w4_20 : (Jvm.Cond.laysFinal "TeethForCoinsModel" "TeethForCoinsModel" "above" "[I") ∈ TB := tb_t (tl_4 20 rfl) rfl
theorem w4_22 : (Jvm.Cond.laysFinal "TeethForCoinsModel" "TeethForCoinsModel" "below" "[I") ∈ TB := tb_t (tl_4 22 rfl) rfl
theorem w4_24 : (Jvm.Cond.laysFinal "TeethForCoinsModel" "TeethForCoinsModel" "keptPage" "[I") ∈ TB := tb_t (tl_4 24 rfl) rfl
theorem w4_26 : (Jvm.Cond.laysFinal "TeethForCoinsModel" "TeethForCoinsModel" "keptMore" "[I") ∈ TB := tb_t (tl_4 26 rfl) rfl
theorem w4_28 : (Jvm.Cond.laysFinal "TeethForCoinsModel" "TeethForCoinsModel" "keptBook" "[I") ∈ TB := tb_t (tl_4 28 rfl) rfl
theorem w4_30 : (Jvm.Cond.laysFinal "TeethForCoinsModel" "TeethForCoinsModel" "keptRates" "[I") ∈ TB := tb_t (tl_4 30 rfl) rfl
theorem w4_32 : (Jvm.Cond.laysFinal "TeethForCoinsModel" "TeethForCoinsModel" "isKept" "[Z") ∈ TB := tb_t (tl_4 32 rfl) rfl
theorem w4_34 : (Jvm.Cond.laysFinal "TeethForCoinsModel" "TeethForCoinsModel" "keptBargains" "[I") ∈ TB := tb_t (tl_4 34 rfl) rfl
theorem w4_36 : (Jvm.Cond.lays "TeethForCoinsModel" "TeethForCoinsModel" "paidSet" "I") ∈ TB := tb_t (tl_4 36 rfl) rfl
theorem w4_38 : (Jvm.Cond.lays "TeethForCoinsModel" "TeethForCoinsModel" "changeSet" "I") ∈ TB := tb_t (tl_4 38 rfl) rfl
theorem w4_40 : (Jvm.Cond.lays "TeethForCoinsModel" "TeethForCoinsModel" "bestSet" "I") ∈ TB := tb_t (tl_4 40 rfl) rfl
theorem w4_42 : (Jvm.Cond.laysFinal "TeethForCoinsModel" "TeethForCoinsModel" "ring" "[I") ∈ TB := tb_t (tl_4 42 rfl) rfl
theorem w4_44 : (Jvm.Cond.laysFinal "TeethForCoinsModel" "TeethForCoinsModel" "tried" "[I") ∈ TB := tb_t (tl_4 44 rfl) rfl
theorem w4_46 : (Jvm.Cond.lays "TeethForCoinsModel" "TeethForCoinsModel" "ringMany" "I") ∈ TB := tb_t (tl_4 46 rfl) rfl
theorem w4_48 : (Jvm.Cond.lays "TeethForCoinsModel" "TeethForCoinsModel" "ringUp" "J") ∈ TB := tb_t (tl_4 48 rfl) rfl
theorem w4_50 : (Jvm.Cond.lays "TeethForCoinsModel" "TeethForCoinsModel" "ringDown" "J") ∈ TB := tb_t (tl_4 50 rfl) rfl
theorem w4_52 : (Jvm.Cond.laysFinal "TeethForCoinsModel" "TeethForCoinsModel" "can" "[Z") ∈ TB := tb_t (tl_4 52 rfl) rfl
theorem w4_56 : (Jvm.Cond.methodLink "TeethForCoinsLaw" (19 : Nat) ({ cls := "TeethForCoinsModel", name := "write", desc := "(IJ)I" } : Jvm.MethodName)) ∈ TB := tb_t (tl_4 56 rfl) rfl
theorem w4_57 : (Jvm.Cond.instanceMethod ({ cls := "TeethForCoinsModel", name := "write", desc := "(IJ)I" } : Jvm.MethodName)) ∈ TB := tb_t (tl_4 57 rfl) rfl
theorem w4_58 : (Jvm.Cond.selects "TeethForCoinsModel" ({ cls := "TeethForCoinsModel", name := "write", desc := "(IJ)I" } : Jvm.MethodName) ({ cls := "TeethForCoinsModel", name := "write", desc := "(IJ)I" } : Jvm.MethodName)) ∈ TB := tb_t (tl_4 58 rfl) rfl
theorem w4_59 : (Jvm.Cond.code ({ cls := "TeethForCoinsModel", name := "write", desc := "(IJ)I" } : Jvm.MethodName) prog_11_method_8_code (5 : Nat) (Option.some Jvm.ClassFile.FieldType.int)) ∈ TB := tb_t (tl_4 59 rfl) rfl
theorem w4_60 : (Jvm.Cond.constantLong "TeethForCoinsModel" (120 : Nat) (8 : Int64)) ∈ TB := tb_t (tl_4 60 rfl) rfl
theorem w4_61 : (Jvm.Cond.methodLink "TeethForCoinsModel" (114 : Nat) ({ cls := "TeethForCoinsModel", name := "in", desc := "(JJJ)Z" } : Jvm.MethodName)) ∈ TB := tb_t (tl_4 61 rfl) rfl
theorem w4_62 : (Jvm.Cond.static ({ cls := "TeethForCoinsModel", name := "in", desc := "(JJJ)Z" } : Jvm.MethodName)) ∈ TB := tb_t (tl_4 62 rfl) rfl
theorem w4_63 : (Jvm.Cond.code ({ cls := "TeethForCoinsModel", name := "in", desc := "(JJJ)Z" } : Jvm.MethodName) prog_11_method_3_code (6 : Nat) (Option.some Jvm.ClassFile.FieldType.boolean)) ∈ TB := tb_t (tl_4 63 rfl) rfl
theorem w4_64 : (Jvm.Cond.methodLink "TeethForCoinsLaw" (24 : Nat) ({ cls := "TeethForCoinsModel", name := "wipe", desc := "()I" } : Jvm.MethodName)) ∈ TB := tb_t (tl_4 64 rfl) rfl
theorem w4_65 : (Jvm.Cond.instanceMethod ({ cls := "TeethForCoinsModel", name := "wipe", desc := "()I" } : Jvm.MethodName)) ∈ TB := tb_t (tl_4 65 rfl) rfl
theorem w4_66 : (Jvm.Cond.selects "TeethForCoinsModel" ({ cls := "TeethForCoinsModel", name := "wipe", desc := "()I" } : Jvm.MethodName) ({ cls := "TeethForCoinsModel", name := "wipe", desc := "()I" } : Jvm.MethodName)) ∈ TB := tb_t (tl_4 66 rfl) rfl
theorem w4_67 : (Jvm.Cond.code ({ cls := "TeethForCoinsModel", name := "wipe", desc := "()I" } : Jvm.MethodName) prog_11_method_9_code (2 : Nat) (Option.some Jvm.ClassFile.FieldType.int)) ∈ TB := tb_t (tl_4 67 rfl) rfl
theorem w4_68 : (Jvm.Cond.methodLink "TeethForCoinsLaw" (28 : Nat) ({ cls := "TeethForCoinsModel", name := "fault", desc := "()I" } : Jvm.MethodName)) ∈ TB := tb_t (tl_4 68 rfl) rfl
theorem w4_69 : (Jvm.Cond.instanceMethod ({ cls := "TeethForCoinsModel", name := "fault", desc := "()I" } : Jvm.MethodName)) ∈ TB := tb_t (tl_4 69 rfl) rfl
theorem w4_70 : (Jvm.Cond.selects "TeethForCoinsModel" ({ cls := "TeethForCoinsModel", name := "fault", desc := "()I" } : Jvm.MethodName) ({ cls := "TeethForCoinsModel", name := "fault", desc := "()I" } : Jvm.MethodName)) ∈ TB := tb_t (tl_4 70 rfl) rfl
theorem w4_71 : (Jvm.Cond.code ({ cls := "TeethForCoinsModel", name := "fault", desc := "()I" } : Jvm.MethodName) prog_11_method_16_code (1 : Nat) (Option.some Jvm.ClassFile.FieldType.int)) ∈ TB := tb_t (tl_4 71 rfl) rfl
theorem w4_72 : (Jvm.Cond.methodLink "TeethForCoinsModel" (159 : Nat) ({ cls := "TeethForCoinsModel", name := "readMarket", desc := "()I" } : Jvm.MethodName)) ∈ TB := tb_t (tl_4 72 rfl) rfl
theorem w4_74 : (Jvm.Cond.instanceMethod ({ cls := "TeethForCoinsModel", name := "readMarket", desc := "()I" } : Jvm.MethodName)) ∈ TB := tb_t (tl_4 74 rfl) rfl
theorem w4_75 : (Jvm.Cond.code ({ cls := "TeethForCoinsModel", name := "readMarket", desc := "()I" } : Jvm.MethodName) prog_11_method_15_code (1 : Nat) (Option.some Jvm.ClassFile.FieldType.int)) ∈ TB := tb_t (tl_4 75 rfl) rfl
theorem w4_76 : (Jvm.Cond.methodLink "TeethForCoinsModel" (128 : Nat) ({ cls := "TeethForCoinsModel", name := "figure", desc := "(II)I" } : Jvm.MethodName)) ∈ TB := tb_t (tl_4 76 rfl) rfl
theorem w4_78 : (Jvm.Cond.instanceMethod ({ cls := "TeethForCoinsModel", name := "figure", desc := "(II)I" } : Jvm.MethodName)) ∈ TB := tb_t (tl_4 78 rfl) rfl
theorem w4_79 : (Jvm.Cond.code ({ cls := "TeethForCoinsModel", name := "figure", desc := "(II)I" } : Jvm.MethodName) prog_11_method_10_code (3 : Nat) (Option.some Jvm.ClassFile.FieldType.int)) ∈ TB := tb_t (tl_4 79 rfl) rfl
theorem w4_80 : (Jvm.Cond.methodLink "TeethForCoinsModel" (156 : Nat) ({ cls := "TeethForCoinsModel", name := "readPart", desc := "()Z" } : Jvm.MethodName)) ∈ TB := tb_t (tl_4 80 rfl) rfl
theorem w4_82 : (Jvm.Cond.instanceMethod ({ cls := "TeethForCoinsModel", name := "readPart", desc := "()Z" } : Jvm.MethodName)) ∈ TB := tb_t (tl_4 82 rfl) rfl
theorem w4_83 : (Jvm.Cond.code ({ cls := "TeethForCoinsModel", name := "readPart", desc := "()Z" } : Jvm.MethodName) prog_11_method_14_code (4 : Nat) (Option.some Jvm.ClassFile.FieldType.boolean)) ∈ TB := tb_t (tl_4 83 rfl) rfl
theorem w4_84 : (Jvm.Cond.methodLink "TeethForCoinsModel" (142 : Nat) ({ cls := "TeethForCoinsModel", name := "readTooth", desc := "(Z)Z" } : Jvm.MethodName)) ∈ TB := tb_t (tl_4 84 rfl) rfl
theorem w4_86 : (Jvm.Cond.instanceMethod ({ cls := "TeethForCoinsModel", name := "readTooth", desc := "(Z)Z" } : Jvm.MethodName)) ∈ TB := tb_t (tl_4 86 rfl) rfl
theorem w4_87 : (Jvm.Cond.code ({ cls := "TeethForCoinsModel", name := "readTooth", desc := "(Z)Z" } : Jvm.MethodName) prog_11_method_12_code (6 : Nat) (Option.some Jvm.ClassFile.FieldType.boolean)) ∈ TB := tb_t (tl_4 87 rfl) rfl
theorem w4_88 : (Jvm.Cond.methodLink "TeethForCoinsModel" (132 : Nat) ({ cls := "TeethForCoinsModel", name := "side", desc := "()I" } : Jvm.MethodName)) ∈ TB := tb_t (tl_4 88 rfl) rfl
theorem w4_90 : (Jvm.Cond.instanceMethod ({ cls := "TeethForCoinsModel", name := "side", desc := "()I" } : Jvm.MethodName)) ∈ TB := tb_t (tl_4 90 rfl) rfl
theorem w4_91 : (Jvm.Cond.code ({ cls := "TeethForCoinsModel", name := "side", desc := "()I" } : Jvm.MethodName) prog_11_method_11_code (1 : Nat) (Option.some Jvm.ClassFile.FieldType.int)) ∈ TB := tb_t (tl_4 91 rfl) rfl
theorem w4_92 : (Jvm.Cond.methodLink "TeethForCoinsModel" (146 : Nat) ({ cls := "TeethForCoinsModel", name := "readGood", desc := "()Z" } : Jvm.MethodName)) ∈ TB := tb_t (tl_4 92 rfl) rfl
theorem w4_94 : (Jvm.Cond.instanceMethod ({ cls := "TeethForCoinsModel", name := "readGood", desc := "()Z" } : Jvm.MethodName)) ∈ TB := tb_t (tl_4 94 rfl) rfl
theorem w4_95 : (Jvm.Cond.code ({ cls := "TeethForCoinsModel", name := "readGood", desc := "()Z" } : Jvm.MethodName) prog_11_method_13_code (4 : Nat) (Option.some Jvm.ClassFile.FieldType.boolean)) ∈ TB := tb_t (tl_4 95 rfl) rfl
theorem w4_96 : (Jvm.Cond.methodLink "TeethForCoinsLaw" (32 : Nat) ({ cls := "TeethForCoinsModel", name := "market", desc := "()I" } : Jvm.MethodName)) ∈ TB := tb_t (tl_4 96 rfl) rfl
theorem w4_97 : (Jvm.Cond.instanceMethod ({ cls := "TeethForCoinsModel", name := "market", desc := "()I" } : Jvm.MethodName)) ∈ TB := tb_t (tl_4 97 rfl) rfl
theorem w4_98 : (Jvm.Cond.selects "TeethForCoinsModel" ({ cls := "TeethForCoinsModel", name := "market", desc := "()I" } : Jvm.MethodName) ({ cls := "TeethForCoinsModel", name := "market", desc := "()I" } : Jvm.MethodName)) ∈ TB := tb_t (tl_4 98 rfl) rfl
theorem w4_99 : (Jvm.Cond.code ({ cls := "TeethForCoinsModel", name := "market", desc := "()I" } : Jvm.MethodName) prog_11_method_18_code (2 : Nat) (Option.some Jvm.ClassFile.FieldType.int)) ∈ TB := tb_t (tl_4 99 rfl) rfl
theorem w4_100 : (Jvm.Cond.methodLink "TeethForCoinsModel" (165 : Nat) ({ cls := "TeethForCoinsModel", name := "come", desc := "(I)V" } : Jvm.MethodName)) ∈ TB := tb_t (tl_4 100 rfl) rfl
theorem w4_102 : (Jvm.Cond.instanceMethod ({ cls := "TeethForCoinsModel", name := "come", desc := "(I)V" } : Jvm.MethodName)) ∈ TB := tb_t (tl_4 102 rfl) rfl
theorem w4_103 : (Jvm.Cond.code ({ cls := "TeethForCoinsModel", name := "come", desc := "(I)V" } : Jvm.MethodName) prog_11_method_17_code (2 : Nat) (Option.none : Option Jvm.ClassFile.FieldType)) ∈ TB := tb_t (tl_4 103 rfl) rfl
theorem w4_104 : (Jvm.Cond.methodLink "TeethForCoinsLaw" (37 : Nat) ({ cls := "TeethForCoinsModel", name := "about", desc := "(I)I" } : Jvm.MethodName)) ∈ TB := tb_t (tl_4 104 rfl) rfl
theorem w4_105 : (Jvm.Cond.instanceMethod ({ cls := "TeethForCoinsModel", name := "about", desc := "(I)I" } : Jvm.MethodName)) ∈ TB := tb_t (tl_4 105 rfl) rfl
theorem w4_106 : (Jvm.Cond.selects "TeethForCoinsModel" ({ cls := "TeethForCoinsModel", name := "about", desc := "(I)I" } : Jvm.MethodName) ({ cls := "TeethForCoinsModel", name := "about", desc := "(I)I" } : Jvm.MethodName)) ∈ TB := tb_t (tl_4 106 rfl) rfl
theorem w4_107 : (Jvm.Cond.code ({ cls := "TeethForCoinsModel", name := "about", desc := "(I)I" } : Jvm.MethodName) prog_11_method_20_code (2 : Nat) (Option.some Jvm.ClassFile.FieldType.int)) ∈ TB := tb_t (tl_4 107 rfl) rfl
theorem w4_108 : (Jvm.Cond.methodLink "TeethForCoinsModel" (172 : Nat) ({ cls := "TeethForCoinsModel", name := "fakes", desc := "()I" } : Jvm.MethodName)) ∈ TB := tb_t (tl_4 108 rfl) rfl
theorem w4_110 : (Jvm.Cond.instanceMethod ({ cls := "TeethForCoinsModel", name := "fakes", desc := "()I" } : Jvm.MethodName)) ∈ TB := tb_t (tl_4 110 rfl) rfl
theorem w4_111 : (Jvm.Cond.code ({ cls := "TeethForCoinsModel", name := "fakes", desc := "()I" } : Jvm.MethodName) prog_11_method_19_code (3 : Nat) (Option.some Jvm.ClassFile.FieldType.int)) ∈ TB := tb_t (tl_4 111 rfl) rfl
theorem w4_112 : (Jvm.Cond.methodLink "TeethForCoinsLaw" (42 : Nat) ({ cls := "TeethForCoinsModel", name := "tooth", desc := "(II)I" } : Jvm.MethodName)) ∈ TB := tb_t (tl_4 112 rfl) rfl
theorem w4_113 : (Jvm.Cond.instanceMethod ({ cls := "TeethForCoinsModel", name := "tooth", desc := "(II)I" } : Jvm.MethodName)) ∈ TB := tb_t (tl_4 113 rfl) rfl
theorem w4_114 : (Jvm.Cond.selects "TeethForCoinsModel" ({ cls := "TeethForCoinsModel", name := "tooth", desc := "(II)I" } : Jvm.MethodName) ({ cls := "TeethForCoinsModel", name := "tooth", desc := "(II)I" } : Jvm.MethodName)) ∈ TB := tb_t (tl_4 114 rfl) rfl
theorem w4_115 : (Jvm.Cond.code ({ cls := "TeethForCoinsModel", name := "tooth", desc := "(II)I" } : Jvm.MethodName) prog_11_method_23_code (3 : Nat) (Option.some Jvm.ClassFile.FieldType.int)) ∈ TB := tb_t (tl_4 115 rfl) rfl
theorem w4_116 : (Jvm.Cond.methodLink "TeethForCoinsModel" (178 : Nat) ({ cls := "TeethForCoinsModel", name := "noTooth", desc := "(I)Z" } : Jvm.MethodName)) ∈ TB := tb_t (tl_4 116 rfl) rfl
theorem w4_118 : (Jvm.Cond.instanceMethod ({ cls := "TeethForCoinsModel", name := "noTooth", desc := "(I)Z" } : Jvm.MethodName)) ∈ TB := tb_t (tl_4 118 rfl) rfl
theorem w4_119 : (Jvm.Cond.code ({ cls := "TeethForCoinsModel", name := "noTooth", desc := "(I)Z" } : Jvm.MethodName) prog_11_method_6_code (2 : Nat) (Option.some Jvm.ClassFile.FieldType.boolean)) ∈ TB := tb_t (tl_4 119 rfl) rfl
theorem w4_120 : (Jvm.Cond.methodLink "TeethForCoinsModel" (182 : Nat) ({ cls := "TeethForCoinsModel", name := "worth", desc := "(I)I" } : Jvm.MethodName)) ∈ TB := tb_t (tl_4 120 rfl) rfl
theorem w4_122 : (Jvm.Cond.instanceMethod ({ cls := "TeethForCoinsModel", name := "worth", desc := "(I)I" } : Jvm.MethodName)) ∈ TB := tb_t (tl_4 122 rfl) rfl
theorem w4_123 : (Jvm.Cond.code ({ cls := "TeethForCoinsModel", name := "worth", desc := "(I)I" } : Jvm.MethodName) prog_11_method_22_code (2 : Nat) (Option.some Jvm.ClassFile.FieldType.int)) ∈ TB := tb_t (tl_4 123 rfl) rfl
theorem w4_124 : (Jvm.Cond.methodLink "TeethForCoinsModel" (175 : Nat) ({ cls := "TeethForCoinsModel", name := "worthBy", desc := "(II)I" } : Jvm.MethodName)) ∈ TB := tb_t (tl_4 124 rfl) rfl
theorem w4_126 : (Jvm.Cond.instanceMethod ({ cls := "TeethForCoinsModel", name := "worthBy", desc := "(II)I" } : Jvm.MethodName)) ∈ TB := tb_t (tl_4 126 rfl) rfl
theorem w4_127 : (Jvm.Cond.code ({ cls := "TeethForCoinsModel", name := "worthBy", desc := "(II)I" } : Jvm.MethodName) prog_11_method_21_code (4 : Nat) (Option.some Jvm.ClassFile.FieldType.int)) ∈ TB := tb_t (tl_4 127 rfl) rfl
theorem w4_128 : (Jvm.Cond.methodLink "TeethForCoinsLaw" (46 : Nat) ({ cls := "TeethForCoinsModel", name := "good", desc := "(II)I" } : Jvm.MethodName)) ∈ TB := tb_t (tl_4 128 rfl) rfl
theorem w4_129 : (Jvm.Cond.instanceMethod ({ cls := "TeethForCoinsModel", name := "good", desc := "(II)I" } : Jvm.MethodName)) ∈ TB := tb_t (tl_4 129 rfl) rfl
theorem w4_130 : (Jvm.Cond.selects "TeethForCoinsModel" ({ cls := "TeethForCoinsModel", name := "good", desc := "(II)I" } : Jvm.MethodName) ({ cls := "TeethForCoinsModel", name := "good", desc := "(II)I" } : Jvm.MethodName)) ∈ TB := tb_t (tl_4 130 rfl) rfl
theorem w4_131 : (Jvm.Cond.code ({ cls := "TeethForCoinsModel", name := "good", desc := "(II)I" } : Jvm.MethodName) prog_11_method_24_code (3 : Nat) (Option.some Jvm.ClassFile.FieldType.int)) ∈ TB := tb_t (tl_4 131 rfl) rfl
theorem w4_132 : (Jvm.Cond.methodLink "TeethForCoinsLaw" (50 : Nat) ({ cls := "TeethForCoinsModel", name := "purse", desc := "(I)I" } : Jvm.MethodName)) ∈ TB := tb_t (tl_4 132 rfl) rfl
theorem w4_133 : (Jvm.Cond.instanceMethod ({ cls := "TeethForCoinsModel", name := "purse", desc := "(I)I" } : Jvm.MethodName)) ∈ TB := tb_t (tl_4 133 rfl) rfl
theorem w4_134 : (Jvm.Cond.selects "TeethForCoinsModel" ({ cls := "TeethForCoinsModel", name := "purse", desc := "(I)I" } : Jvm.MethodName) ({ cls := "TeethForCoinsModel", name := "purse", desc := "(I)I" } : Jvm.MethodName)) ∈ TB := tb_t (tl_4 134 rfl) rfl
theorem w4_135 : (Jvm.Cond.code ({ cls := "TeethForCoinsModel", name := "purse", desc := "(I)I" } : Jvm.MethodName) prog_11_method_27_code (2 : Nat) (Option.some Jvm.ClassFile.FieldType.int)) ∈ TB := tb_t (tl_4 135 rfl) rfl
theorem w4_136 : (Jvm.Cond.methodLink "TeethForCoinsModel" (190 : Nat) ({ cls := "TeethForCoinsModel", name := "noOne", desc := "(I)Z" } : Jvm.MethodName)) ∈ TB := tb_t (tl_4 136 rfl) rfl
theorem w4_137 : (Jvm.Cond.static ({ cls := "TeethForCoinsModel", name := "noOne", desc := "(I)Z" } : Jvm.MethodName)) ∈ TB := tb_t (tl_4 137 rfl) rfl
theorem w4_138 : (Jvm.Cond.code ({ cls := "TeethForCoinsModel", name := "noOne", desc := "(I)Z" } : Jvm.MethodName) prog_11_method_7_code (1 : Nat) (Option.some Jvm.ClassFile.FieldType.boolean)) ∈ TB := tb_t (tl_4 138 rfl) rfl
theorem w4_139 : (Jvm.Cond.constantLong "TeethForCoinsModel" (118 : Nat) (3 : Int64)) ∈ TB := tb_t (tl_4 139 rfl) rfl
theorem w4_140 : (Jvm.Cond.methodLink "TeethForCoinsModel" (193 : Nat) ({ cls := "TeethForCoinsModel", name := "setOf", desc := "(I)I" } : Jvm.MethodName)) ∈ TB := tb_t (tl_4 140 rfl) rfl
theorem w4_142 : (Jvm.Cond.instanceMethod ({ cls := "TeethForCoinsModel", name := "setOf", desc := "(I)I" } : Jvm.MethodName)) ∈ TB := tb_t (tl_4 142 rfl) rfl
theorem w4_143 : (Jvm.Cond.code ({ cls := "TeethForCoinsModel", name := "setOf", desc := "(I)I" } : Jvm.MethodName) prog_11_method_25_code (4 : Nat) (Option.some Jvm.ClassFile.FieldType.int)) ∈ TB := tb_t (tl_4 143 rfl) rfl
theorem w4_144 : (Jvm.Cond.methodLink "TeethForCoinsModel" (196 : Nat) ({ cls := "TeethForCoinsModel", name := "worthOf", desc := "(I)I" } : Jvm.MethodName)) ∈ TB := tb_t (tl_4 144 rfl) rfl
theorem w4_146 : (Jvm.Cond.instanceMethod ({ cls := "TeethForCoinsModel", name := "worthOf", desc := "(I)I" } : Jvm.MethodName)) ∈ TB := tb_t (tl_4 146 rfl) rfl
theorem w4_147 : (Jvm.Cond.code ({ cls := "TeethForCoinsModel", name := "worthOf", desc := "(I)I" } : Jvm.MethodName) prog_11_method_26_code (4 : Nat) (Option.some Jvm.ClassFile.FieldType.int)) ∈ TB := tb_t (tl_4 147 rfl) rfl
theorem w4_148 : (Jvm.Cond.methodLink "TeethForCoinsModel" (186 : Nat) ({ cls := "TeethForCoinsModel", name := "has", desc := "(II)Z" } : Jvm.MethodName)) ∈ TB := tb_t (tl_4 148 rfl) rfl
theorem w4_149 : (Jvm.Cond.static ({ cls := "TeethForCoinsModel", name := "has", desc := "(II)Z" } : Jvm.MethodName)) ∈ TB := tb_t (tl_4 149 rfl) rfl
theorem w4_150 : (Jvm.Cond.code ({ cls := "TeethForCoinsModel", name := "has", desc := "(II)Z" } : Jvm.MethodName) prog_11_method_4_code (2 : Nat) (Option.some Jvm.ClassFile.FieldType.boolean)) ∈ TB := tb_t (tl_4 150 rfl) rfl
theorem w4_151 : (Jvm.Cond.methodLink "TeethForCoinsLaw" (54 : Nat) ({ cls := "TeethForCoinsModel", name := "handle", desc := "(I)I" } : Jvm.MethodName)) ∈ TB := tb_t (tl_4 151 rfl) rfl
theorem w4_152 : (Jvm.Cond.instanceMethod ({ cls := "TeethForCoinsModel", name := "handle", desc := "(I)I" } : Jvm.MethodName)) ∈ TB := tb_t (tl_4 152 rfl) rfl
theorem w4_153 : (Jvm.Cond.selects "TeethForCoinsModel" ({ cls := "TeethForCoinsModel", name := "handle", desc := "(I)I" } : Jvm.MethodName) ({ cls := "TeethForCoinsModel", name := "handle", desc := "(I)I" } : Jvm.MethodName)) ∈ TB := tb_t (tl_4 153 rfl) rfl
theorem w4_154 : (Jvm.Cond.code ({ cls := "TeethForCoinsModel", name := "handle", desc := "(I)I" } : Jvm.MethodName) prog_11_method_29_code (2 : Nat) (Option.some Jvm.ClassFile.FieldType.int)) ∈ TB := tb_t (tl_4 154 rfl) rfl
theorem w4_155 : (Jvm.Cond.methodLink "TeethForCoinsModel" (199 : Nat) ({ cls := "TeethForCoinsModel", name := "goHandle", desc := "(I)V" } : Jvm.MethodName)) ∈ TB := tb_t (tl_4 155 rfl) rfl
theorem w4_157 : (Jvm.Cond.instanceMethod ({ cls := "TeethForCoinsModel", name := "goHandle", desc := "(I)V" } : Jvm.MethodName)) ∈ TB := tb_t (tl_4 157 rfl) rfl
theorem w4_158 : (Jvm.Cond.code ({ cls := "TeethForCoinsModel", name := "goHandle", desc := "(I)V" } : Jvm.MethodName) prog_11_method_28_code (2 : Nat) (Option.none : Option Jvm.ClassFile.FieldType)) ∈ TB := tb_t (tl_4 158 rfl) rfl
theorem w4_159 : (Jvm.Cond.methodLink "TeethForCoinsLaw" (58 : Nat) ({ cls := "TeethForCoinsModel", name := "bite", desc := "(I)I" } : Jvm.MethodName)) ∈ TB := tb_t (tl_4 159 rfl) rfl
theorem w4_160 : (Jvm.Cond.instanceMethod ({ cls := "TeethForCoinsModel", name := "bite", desc := "(I)I" } : Jvm.MethodName)) ∈ TB := tb_t (tl_4 160 rfl) rfl
theorem w4_161 : (Jvm.Cond.selects "TeethForCoinsModel" ({ cls := "TeethForCoinsModel", name := "bite", desc := "(I)I" } : Jvm.MethodName) ({ cls := "TeethForCoinsModel", name := "bite", desc := "(I)I" } : Jvm.MethodName)) ∈ TB := tb_t (tl_4 161 rfl) rfl
theorem w4_162 : (Jvm.Cond.code ({ cls := "TeethForCoinsModel", name := "bite", desc := "(I)I" } : Jvm.MethodName) prog_11_method_30_code (2 : Nat) (Option.some Jvm.ClassFile.FieldType.int)) ∈ TB := tb_t (tl_4 162 rfl) rfl
theorem w4_163 : (Jvm.Cond.methodLink "TeethForCoinsLaw" (63 : Nat) ({ cls := "TeethForCoinsModel", name := "fewest", desc := "(III)I" } : Jvm.MethodName)) ∈ TB := tb_t (tl_4 163 rfl) rfl
theorem w4_164 : (Jvm.Cond.instanceMethod ({ cls := "TeethForCoinsModel", name := "fewest", desc := "(III)I" } : Jvm.MethodName)) ∈ TB := tb_t (tl_4 164 rfl) rfl
theorem w4_165 : (Jvm.Cond.selects "TeethForCoinsModel" ({ cls := "TeethForCoinsModel", name := "fewest", desc := "(III)I" } : Jvm.MethodName) ({ cls := "TeethForCoinsModel", name := "fewest", desc := "(III)I" } : Jvm.MethodName)) ∈ TB := tb_t (tl_4 165 rfl) rfl
theorem w4_166 : (Jvm.Cond.code ({ cls := "TeethForCoinsModel", name := "fewest", desc := "(III)I" } : Jvm.MethodName) prog_11_method_34_code (5 : Nat) (Option.some Jvm.ClassFile.FieldType.int)) ∈ TB := tb_t (tl_4 166 rfl) rfl
theorem w4_167 : (Jvm.Cond.methodLink "TeethForCoinsModel" (216 : Nat) ({ cls := "TeethForCoinsModel", name := "noPay", desc := "(III)I" } : Jvm.MethodName)) ∈ TB := tb_t (tl_4 167 rfl) rfl
theorem w4_168 : (Jvm.Cond.static ({ cls := "TeethForCoinsModel", name := "noPay", desc := "(III)I" } : Jvm.MethodName)) ∈ TB := tb_t (tl_4 168 rfl) rfl
theorem w4_169 : (Jvm.Cond.code ({ cls := "TeethForCoinsModel", name := "noPay", desc := "(III)I" } : Jvm.MethodName) prog_11_method_33_code (3 : Nat) (Option.some Jvm.ClassFile.FieldType.int)) ∈ TB := tb_t (tl_4 169 rfl) rfl
theorem w4_170 : (Jvm.Cond.constantLong "TeethForCoinsModel" (214 : Nat) (999 : Int64)) ∈ TB := tb_t (tl_4 170 rfl) rfl
theorem w4_171 : (Jvm.Cond.methodLink "TeethForCoinsModel" (220 : Nat) ({ cls := "TeethForCoinsModel", name := "findFewest", desc := "(III)I" } : Jvm.MethodName)) ∈ TB := tb_t (tl_4 171 rfl) rfl
theorem w4_173 : (Jvm.Cond.instanceMethod ({ cls := "TeethForCoinsModel", name := "findFewest", desc := "(III)I" } : Jvm.MethodName)) ∈ TB := tb_t (tl_4 173 rfl) rfl
theorem w4_174 : (Jvm.Cond.code ({ cls := "TeethForCoinsModel", name := "findFewest", desc := "(III)I" } : Jvm.MethodName) prog_11_method_32_code (13 : Nat) (Option.some Jvm.ClassFile.FieldType.int)) ∈ TB := tb_t (tl_4 174 rfl) rfl
theorem w4_175 : (Jvm.Cond.methodLink "TeethForCoinsModel" (202 : Nat) ({ cls := "TeethForCoinsModel", name := "many", desc := "(I)I" } : Jvm.MethodName)) ∈ TB := tb_t (tl_4 175 rfl) rfl
theorem w4_176 : (Jvm.Cond.static ({ cls := "TeethForCoinsModel", name := "many", desc := "(I)I" } : Jvm.MethodName)) ∈ TB := tb_t (tl_4 176 rfl) rfl
theorem w4_177 : (Jvm.Cond.code ({ cls := "TeethForCoinsModel", name := "many", desc := "(I)I" } : Jvm.MethodName) prog_11_method_5_code (3 : Nat) (Option.some Jvm.ClassFile.FieldType.int)) ∈ TB := tb_t (tl_4 177 rfl) rfl
theorem w4_178 : (Jvm.Cond.methodLink "TeethForCoinsModel" (211 : Nat) ({ cls := "TeethForCoinsModel", name := "next", desc := "(II)I" } : Jvm.MethodName)) ∈ TB := tb_t (tl_4 178 rfl) rfl
theorem w4_179 : (Jvm.Cond.static ({ cls := "TeethForCoinsModel", name := "next", desc := "(II)I" } : Jvm.MethodName)) ∈ TB := tb_t (tl_4 179 rfl) rfl
theorem w4_180 : (Jvm.Cond.code ({ cls := "TeethForCoinsModel", name := "next", desc := "(II)I" } : Jvm.MethodName) prog_11_method_31_code (2 : Nat) (Option.some Jvm.ClassFile.FieldType.int)) ∈ TB := tb_t (tl_4 180 rfl) rfl
theorem w4_181 : (Jvm.Cond.methodLink "TeethForCoinsLaw" (68 : Nat) ({ cls := "TeethForCoinsModel", name := "paid", desc := "(IIIZ)I" } : Jvm.MethodName)) ∈ TB := tb_t (tl_4 181 rfl) rfl
theorem w4_182 : (Jvm.Cond.instanceMethod ({ cls := "TeethForCoinsModel", name := "paid", desc := "(IIIZ)I" } : Jvm.MethodName)) ∈ TB := tb_t (tl_4 182 rfl) rfl
theorem w4_183 : (Jvm.Cond.selects "TeethForCoinsModel" ({ cls := "TeethForCoinsModel", name := "paid", desc := "(IIIZ)I" } : Jvm.MethodName) ({ cls := "TeethForCoinsModel", name := "paid", desc := "(IIIZ)I" } : Jvm.MethodName)) ∈ TB := tb_t (tl_4 183 rfl) rfl
theorem w4_184 : (Jvm.Cond.code ({ cls := "TeethForCoinsModel", name := "paid", desc := "(IIIZ)I" } : Jvm.MethodName) prog_11_method_35_code (6 : Nat) (Option.some Jvm.ClassFile.FieldType.int)) ∈ TB := tb_t (tl_4 184 rfl) rfl
theorem w4_185 : (Jvm.Cond.methodLink "TeethForCoinsLaw" (72 : Nat) ({ cls := "TeethForCoinsModel", name := "pay", desc := "(III)I" } : Jvm.MethodName)) ∈ TB := tb_t (tl_4 185 rfl) rfl
theorem w4_186 : (Jvm.Cond.instanceMethod ({ cls := "TeethForCoinsModel", name := "pay", desc := "(III)I" } : Jvm.MethodName)) ∈ TB := tb_t (tl_4 186 rfl) rfl
theorem w4_187 : (Jvm.Cond.selects "TeethForCoinsModel" ({ cls := "TeethForCoinsModel", name := "pay", desc := "(III)I" } : Jvm.MethodName) ({ cls := "TeethForCoinsModel", name := "pay", desc := "(III)I" } : Jvm.MethodName)) ∈ TB := tb_t (tl_4 187 rfl) rfl
theorem w4_188 : (Jvm.Cond.code ({ cls := "TeethForCoinsModel", name := "pay", desc := "(III)I" } : Jvm.MethodName) prog_11_method_39_code (6 : Nat) (Option.some Jvm.ClassFile.FieldType.int)) ∈ TB := tb_t (tl_4 188 rfl) rfl
theorem w4_189 : (Jvm.Cond.methodLink "TeethForCoinsModel" (223 : Nat) ({ cls := "TeethForCoinsModel", name := "lay", desc := "([II)V" } : Jvm.MethodName)) ∈ TB := tb_t (tl_4 189 rfl) rfl
theorem w4_191 : (Jvm.Cond.instanceMethod ({ cls := "TeethForCoinsModel", name := "lay", desc := "([II)V" } : Jvm.MethodName)) ∈ TB := tb_t (tl_4 191 rfl) rfl
theorem w4_192 : (Jvm.Cond.code ({ cls := "TeethForCoinsModel", name := "lay", desc := "([II)V" } : Jvm.MethodName) prog_11_method_36_code (4 : Nat) (Option.none : Option Jvm.ClassFile.FieldType)) ∈ TB := tb_t (tl_4 192 rfl) rfl
theorem w4_193 : (Jvm.Cond.methodLink "TeethForCoinsModel" (227 : Nat) ({ cls := "TeethForCoinsModel", name := "goOver", desc := "(II)V" } : Jvm.MethodName)) ∈ TB := tb_t (tl_4 193 rfl) rfl
theorem w4_195 : (Jvm.Cond.instanceMethod ({ cls := "TeethForCoinsModel", name := "goOver", desc := "(II)V" } : Jvm.MethodName)) ∈ TB := tb_t (tl_4 195 rfl) rfl
theorem w4_196 : (Jvm.Cond.code ({ cls := "TeethForCoinsModel", name := "goOver", desc := "(II)V" } : Jvm.MethodName) prog_11_method_38_code (4 : Nat) (Option.none : Option Jvm.ClassFile.FieldType)) ∈ TB := tb_t (tl_4 196 rfl) rfl
theorem w4_197 : (Jvm.Cond.methodLink "TeethForCoinsLaw" (76 : Nat) ({ cls := "TeethForCoinsModel", name := "undo", desc := "()I" } : Jvm.MethodName)) ∈ TB := tb_t (tl_4 197 rfl) rfl
theorem w4_198 : (Jvm.Cond.instanceMethod ({ cls := "TeethForCoinsModel", name := "undo", desc := "()I" } : Jvm.MethodName)) ∈ TB := tb_t (tl_4 198 rfl) rfl
theorem w4_199 : (Jvm.Cond.selects "TeethForCoinsModel" ({ cls := "TeethForCoinsModel", name := "undo", desc := "()I" } : Jvm.MethodName) ({ cls := "TeethForCoinsModel", name := "undo", desc := "()I" } : Jvm.MethodName)) ∈ TB := tb_t (tl_4 199 rfl) rfl
theorem w4_200 : (Jvm.Cond.code ({ cls := "TeethForCoinsModel", name := "undo", desc := "()I" } : Jvm.MethodName) prog_11_method_40_code (1 : Nat) (Option.some Jvm.ClassFile.FieldType.int)) ∈ TB := tb_t (tl_4 200 rfl) rfl
theorem w4_201 : (Jvm.Cond.methodLink "TeethForCoinsModel" (231 : Nat) ({ cls := "TeethForCoinsModel", name := "take", desc := "([II)V" } : Jvm.MethodName)) ∈ TB := tb_t (tl_4 201 rfl) rfl
theorem w4_203 : (Jvm.Cond.instanceMethod ({ cls := "TeethForCoinsModel", name := "take", desc := "([II)V" } : Jvm.MethodName)) ∈ TB := tb_t (tl_4 203 rfl) rfl
theorem w4_204 : (Jvm.Cond.code ({ cls := "TeethForCoinsModel", name := "take", desc := "([II)V" } : Jvm.MethodName) prog_11_method_37_code (5 : Nat) (Option.none : Option Jvm.ClassFile.FieldType)) ∈ TB := tb_t (tl_4 204 rfl) rfl
theorem w4_205 : (Jvm.Cond.methodLink "TeethForCoinsLaw" (81 : Nat) ({ cls := "TeethForCoinsModel", name := "tooMuch", desc := "(IIZ)I" } : Jvm.MethodName)) ∈ TB := tb_t (tl_4 205 rfl) rfl
theorem w4_206 : (Jvm.Cond.instanceMethod ({ cls := "TeethForCoinsModel", name := "tooMuch", desc := "(IIZ)I" } : Jvm.MethodName)) ∈ TB := tb_t (tl_4 206 rfl) rfl
theorem w4_207 : (Jvm.Cond.selects "TeethForCoinsModel" ({ cls := "TeethForCoinsModel", name := "tooMuch", desc := "(IIZ)I" } : Jvm.MethodName) ({ cls := "TeethForCoinsModel", name := "tooMuch", desc := "(IIZ)I" } : Jvm.MethodName)) ∈ TB := tb_t (tl_4 207 rfl) rfl
theorem w4_208 : (Jvm.Cond.code ({ cls := "TeethForCoinsModel", name := "tooMuch", desc := "(IIZ)I" } : Jvm.MethodName) prog_11_method_42_code (5 : Nat) (Option.some Jvm.ClassFile.FieldType.int)) ∈ TB := tb_t (tl_4 208 rfl) rfl
theorem w4_209 : (Jvm.Cond.methodLink "TeethForCoinsModel" (237 : Nat) ({ cls := "TeethForCoinsModel", name := "findMuch", desc := "(II)I" } : Jvm.MethodName)) ∈ TB := tb_t (tl_4 209 rfl) rfl
theorem w4_211 : (Jvm.Cond.instanceMethod ({ cls := "TeethForCoinsModel", name := "findMuch", desc := "(II)I" } : Jvm.MethodName)) ∈ TB := tb_t (tl_4 211 rfl) rfl
theorem w4_212 : (Jvm.Cond.code ({ cls := "TeethForCoinsModel", name := "findMuch", desc := "(II)I" } : Jvm.MethodName) prog_11_method_41_code (9 : Nat) (Option.some Jvm.ClassFile.FieldType.int)) ∈ TB := tb_t (tl_4 212 rfl) rfl
theorem w4_213 : (Jvm.Cond.methodLink "TeethForCoinsLaw" (85 : Nat) ({ cls := "TeethForCoinsModel", name := "sums", desc := "(III)I" } : Jvm.MethodName)) ∈ TB := tb_t (tl_4 213 rfl) rfl
theorem w4_214 : (Jvm.Cond.instanceMethod ({ cls := "TeethForCoinsModel", name := "sums", desc := "(III)I" } : Jvm.MethodName)) ∈ TB := tb_t (tl_4 214 rfl) rfl
theorem w4_215 : (Jvm.Cond.selects "TeethForCoinsModel" ({ cls := "TeethForCoinsModel", name := "sums", desc := "(III)I" } : Jvm.MethodName) ({ cls := "TeethForCoinsModel", name := "sums", desc := "(III)I" } : Jvm.MethodName)) ∈ TB := tb_t (tl_4 215 rfl) rfl
theorem w4_216 : (Jvm.Cond.code ({ cls := "TeethForCoinsModel", name := "sums", desc := "(III)I" } : Jvm.MethodName) prog_11_method_43_code (12 : Nat) (Option.some Jvm.ClassFile.FieldType.int)) ∈ TB := tb_t (tl_4 216 rfl) rfl
theorem w4_217 : (Jvm.Cond.methodLink "TeethForCoinsLaw" (90 : Nat) ({ cls := "TeethForCoinsModel", name := "spent", desc := "(IZ)I" } : Jvm.MethodName)) ∈ TB := tb_t (tl_4 217 rfl) rfl
theorem w4_218 : (Jvm.Cond.instanceMethod ({ cls := "TeethForCoinsModel", name := "spent", desc := "(IZ)I" } : Jvm.MethodName)) ∈ TB := tb_t (tl_4 218 rfl) rfl
theorem w4_219 : (Jvm.Cond.selects "TeethForCoinsModel" ({ cls := "TeethForCoinsModel", name := "spent", desc := "(IZ)I" } : Jvm.MethodName) ({ cls := "TeethForCoinsModel", name := "spent", desc := "(IZ)I" } : Jvm.MethodName)) ∈ TB := tb_t (tl_4 219 rfl) rfl
theorem w4_220 : (Jvm.Cond.code ({ cls := "TeethForCoinsModel", name := "spent", desc := "(IZ)I" } : Jvm.MethodName) prog_11_method_44_code (11 : Nat) (Option.some Jvm.ClassFile.FieldType.int)) ∈ TB := tb_t (tl_4 220 rfl) rfl
theorem w4_221 : (Jvm.Cond.methodLink "TeethForCoinsLaw" (94 : Nat) ({ cls := "TeethForCoinsModel", name := "caught", desc := "(IJ)I" } : Jvm.MethodName)) ∈ TB := tb_t (tl_4 221 rfl) rfl
theorem w4_222 : (Jvm.Cond.instanceMethod ({ cls := "TeethForCoinsModel", name := "caught", desc := "(IJ)I" } : Jvm.MethodName)) ∈ TB := tb_t (tl_4 222 rfl) rfl
theorem w4_223 : (Jvm.Cond.selects "TeethForCoinsModel" ({ cls := "TeethForCoinsModel", name := "caught", desc := "(IJ)I" } : Jvm.MethodName) ({ cls := "TeethForCoinsModel", name := "caught", desc := "(IJ)I" } : Jvm.MethodName)) ∈ TB := tb_t (tl_4 223 rfl) rfl
theorem w4_224 : (Jvm.Cond.code ({ cls := "TeethForCoinsModel", name := "caught", desc := "(IJ)I" } : Jvm.MethodName) prog_11_method_47_code (4 : Nat) (Option.some Jvm.ClassFile.FieldType.int)) ∈ TB := tb_t (tl_4 224 rfl) rfl
theorem w4_225 : (Jvm.Cond.methodLink "TeethForCoinsModel" (248 : Nat) ({ cls := "TeethForCoinsModel", name := "draw", desc := "(J)J" } : Jvm.MethodName)) ∈ TB := tb_t (tl_4 225 rfl) rfl
theorem w4_226 : (Jvm.Cond.static ({ cls := "TeethForCoinsModel", name := "draw", desc := "(J)J" } : Jvm.MethodName)) ∈ TB := tb_t (tl_4 226 rfl) rfl
theorem w4_227 : (Jvm.Cond.code ({ cls := "TeethForCoinsModel", name := "draw", desc := "(J)J" } : Jvm.MethodName) prog_11_method_46_code (2 : Nat) (Option.some Jvm.ClassFile.FieldType.long)) ∈ TB := tb_t (tl_4 227 rfl) rfl
theorem w4_228 : (Jvm.Cond.constantLong "TeethForCoinsModel" (244 : Nat) (6364136223846793005 : Int64)) ∈ TB := tb_t (tl_4 228 rfl) rfl
theorem w4_229 : (Jvm.Cond.constantLong "TeethForCoinsModel" (246 : Nat) (1442695040888963407 : Int64)) ∈ TB := tb_t (tl_4 229 rfl) rfl
theorem w4_230 : (Jvm.Cond.methodLink "TeethForCoinsModel" (252 : Nat) ({ cls := "TeethForCoinsModel", name := "add", desc := "(IJ)V" } : Jvm.MethodName)) ∈ TB := tb_t (tl_4 230 rfl) rfl
theorem w4_232 : (Jvm.Cond.instanceMethod ({ cls := "TeethForCoinsModel", name := "add", desc := "(IJ)V" } : Jvm.MethodName)) ∈ TB := tb_t (tl_4 232 rfl) rfl
theorem w4_233 : (Jvm.Cond.code ({ cls := "TeethForCoinsModel", name := "add", desc := "(IJ)V" } : Jvm.MethodName) prog_11_method_45_code (6 : Nat) (Option.none : Option Jvm.ClassFile.FieldType)) ∈ TB := tb_t (tl_4 233 rfl) rfl
theorem w4_234 : (Jvm.Cond.constantLong "TeethForCoinsModel" (240 : Nat) (9 : Int64)) ∈ TB := tb_t (tl_4 234 rfl) rfl
theorem w4_235 : (Jvm.Cond.constantLong "TeethForCoinsModel" (242 : Nat) (2 : Int64)) ∈ TB := tb_t (tl_4 235 rfl) rfl
theorem w4_236 : (Jvm.Cond.methodLink "TeethForCoinsLaw" (98 : Nat) ({ cls := "TeethForCoinsModel", name := "washed", desc := "(IJ)I" } : Jvm.MethodName)) ∈ TB := tb_t (tl_4 236 rfl) rfl
theorem w4_237 : (Jvm.Cond.instanceMethod ({ cls := "TeethForCoinsModel", name := "washed", desc := "(IJ)I" } : Jvm.MethodName)) ∈ TB := tb_t (tl_4 237 rfl) rfl
theorem w4_238 : (Jvm.Cond.selects "TeethForCoinsModel" ({ cls := "TeethForCoinsModel", name := "washed", desc := "(IJ)I" } : Jvm.MethodName) ({ cls := "TeethForCoinsModel", name := "washed", desc := "(IJ)I" } : Jvm.MethodName)) ∈ TB := tb_t (tl_4 238 rfl) rfl
theorem w4_239 : (Jvm.Cond.code ({ cls := "TeethForCoinsModel", name := "washed", desc := "(IJ)I" } : Jvm.MethodName) prog_11_method_48_code (7 : Nat) (Option.some Jvm.ClassFile.FieldType.int)) ∈ TB := tb_t (tl_4 239 rfl) rfl
theorem w5_0 : (Jvm.Cond.constantLong "TeethForCoinsModel" (256 : Nat) (10 : Int64)) ∈ TB := tb_t (tl_5 0 rfl) rfl
theorem w5_1 : (Jvm.Cond.methodLink "TeethForCoinsLaw" (102 : Nat) ({ cls := "TeethForCoinsModel", name := "life", desc := "(II)I" } : Jvm.MethodName)) ∈ TB := tb_t (tl_5 1 rfl) rfl
theorem w5_2 : (Jvm.Cond.instanceMethod ({ cls := "TeethForCoinsModel", name := "life", desc := "(II)I" } : Jvm.MethodName)) ∈ TB := tb_t (tl_5 2 rfl) rfl
theorem w5_3 : (Jvm.Cond.selects "TeethForCoinsModel" ({ cls := "TeethForCoinsModel", name := "life", desc := "(II)I" } : Jvm.MethodName) ({ cls := "TeethForCoinsModel", name := "life", desc := "(II)I" } : Jvm.MethodName)) ∈ TB := tb_t (tl_5 3 rfl) rfl
theorem w5_4 : (Jvm.Cond.code ({ cls := "TeethForCoinsModel", name := "life", desc := "(II)I" } : Jvm.MethodName) prog_11_method_49_code (4 : Nat) (Option.some Jvm.ClassFile.FieldType.int)) ∈ TB := tb_t (tl_5 4 rfl) rfl
theorem w5_5 : (Jvm.Cond.methodLink "TeethForCoinsLaw" (106 : Nat) ({ cls := "TeethForCoinsModel", name := "trace", desc := "(II)I" } : Jvm.MethodName)) ∈ TB := tb_t (tl_5 5 rfl) rfl
theorem w5_6 : (Jvm.Cond.instanceMethod ({ cls := "TeethForCoinsModel", name := "trace", desc := "(II)I" } : Jvm.MethodName)) ∈ TB := tb_t (tl_5 6 rfl) rfl
theorem w5_7 : (Jvm.Cond.selects "TeethForCoinsModel" ({ cls := "TeethForCoinsModel", name := "trace", desc := "(II)I" } : Jvm.MethodName) ({ cls := "TeethForCoinsModel", name := "trace", desc := "(II)I" } : Jvm.MethodName)) ∈ TB := tb_t (tl_5 7 rfl) rfl
theorem w5_8 : (Jvm.Cond.code ({ cls := "TeethForCoinsModel", name := "trace", desc := "(II)I" } : Jvm.MethodName) prog_11_method_50_code (3 : Nat) (Option.some Jvm.ClassFile.FieldType.int)) ∈ TB := tb_t (tl_5 8 rfl) rfl
theorem w5_9 : (Jvm.Cond.methodLink "TeethForCoinsLaw" (110 : Nat) ({ cls := "TeethForCoinsModel", name := "inflated", desc := "(II)I" } : Jvm.MethodName)) ∈ TB := tb_t (tl_5 9 rfl) rfl
theorem w5_10 : (Jvm.Cond.instanceMethod ({ cls := "TeethForCoinsModel", name := "inflated", desc := "(II)I" } : Jvm.MethodName)) ∈ TB := tb_t (tl_5 10 rfl) rfl
theorem w5_11 : (Jvm.Cond.selects "TeethForCoinsModel" ({ cls := "TeethForCoinsModel", name := "inflated", desc := "(II)I" } : Jvm.MethodName) ({ cls := "TeethForCoinsModel", name := "inflated", desc := "(II)I" } : Jvm.MethodName)) ∈ TB := tb_t (tl_5 11 rfl) rfl
theorem w5_12 : (Jvm.Cond.code ({ cls := "TeethForCoinsModel", name := "inflated", desc := "(II)I" } : Jvm.MethodName) prog_11_method_51_code (4 : Nat) (Option.some Jvm.ClassFile.FieldType.int)) ∈ TB := tb_t (tl_5 12 rfl) rfl
theorem w5_13 : (Jvm.Cond.constantLong "TeethForCoinsModel" (258 : Nat) (9999 : Int64)) ∈ TB := tb_t (tl_5 13 rfl) rfl
theorem w5_14 : (Jvm.Cond.methodLink "TeethForCoinsLaw" (115 : Nat) ({ cls := "TeethForCoinsModel", name := "doubt", desc := "(IIIIIZ)J" } : Jvm.MethodName)) ∈ TB := tb_t (tl_5 14 rfl) rfl
theorem w5_15 : (Jvm.Cond.instanceMethod ({ cls := "TeethForCoinsModel", name := "doubt", desc := "(IIIIIZ)J" } : Jvm.MethodName)) ∈ TB := tb_t (tl_5 15 rfl) rfl
theorem w5_16 : (Jvm.Cond.selects "TeethForCoinsModel" ({ cls := "TeethForCoinsModel", name := "doubt", desc := "(IIIIIZ)J" } : Jvm.MethodName) ({ cls := "TeethForCoinsModel", name := "doubt", desc := "(IIIIIZ)J" } : Jvm.MethodName)) ∈ TB := tb_t (tl_5 16 rfl) rfl
theorem w5_17 : (Jvm.Cond.code ({ cls := "TeethForCoinsModel", name := "doubt", desc := "(IIIIIZ)J" } : Jvm.MethodName) prog_11_method_55_code (11 : Nat) (Option.some Jvm.ClassFile.FieldType.long)) ∈ TB := tb_t (tl_5 17 rfl) rfl
theorem w5_18 : (Jvm.Cond.methodLink "TeethForCoinsModel" (260 : Nat) ({ cls := "TeethForCoinsModel", name := "noTenths", desc := "(I)Z" } : Jvm.MethodName)) ∈ TB := tb_t (tl_5 18 rfl) rfl
theorem w5_19 : (Jvm.Cond.static ({ cls := "TeethForCoinsModel", name := "noTenths", desc := "(I)Z" } : Jvm.MethodName)) ∈ TB := tb_t (tl_5 19 rfl) rfl
theorem w5_20 : (Jvm.Cond.code ({ cls := "TeethForCoinsModel", name := "noTenths", desc := "(I)Z" } : Jvm.MethodName) prog_11_method_54_code (1 : Nat) (Option.some Jvm.ClassFile.FieldType.boolean)) ∈ TB := tb_t (tl_5 20 rfl) rfl
theorem w5_21 : (Jvm.Cond.constantLong "TeethForCoinsModel" (263 : Nat) (6 : Int64)) ∈ TB := tb_t (tl_5 21 rfl) rfl
theorem w5_22 : (Jvm.Cond.constantLong "TeethForCoinsModel" (265 : Nat) (-2 : Int64)) ∈ TB := tb_t (tl_5 22 rfl) rfl
theorem w5_23 : (Jvm.Cond.methodLink "TeethForCoinsModel" (267 : Nat) ({ cls := "TeethForCoinsModel", name := "power", desc := "(JI)J" } : Jvm.MethodName)) ∈ TB := tb_t (tl_5 23 rfl) rfl
theorem w5_24 : (Jvm.Cond.static ({ cls := "TeethForCoinsModel", name := "power", desc := "(JI)J" } : Jvm.MethodName)) ∈ TB := tb_t (tl_5 24 rfl) rfl
theorem w5_25 : (Jvm.Cond.code ({ cls := "TeethForCoinsModel", name := "power", desc := "(JI)J" } : Jvm.MethodName) prog_11_method_53_code (6 : Nat) (Option.some Jvm.ClassFile.FieldType.long)) ∈ TB := tb_t (tl_5 25 rfl) rfl
theorem w5_26 : (Jvm.Cond.constantLong "TeethForCoinsModel" (271 : Nat) (-3 : Int64)) ∈ TB := tb_t (tl_5 26 rfl) rfl
theorem w5_27 : (Jvm.Cond.methodLink "TeethForCoinsModel" (273 : Nat) ({ cls := "TeethForCoinsModel", name := "told", desc := "(JJZ)J" } : Jvm.MethodName)) ∈ TB := tb_t (tl_5 27 rfl) rfl
theorem w5_28 : (Jvm.Cond.static ({ cls := "TeethForCoinsModel", name := "told", desc := "(JJZ)J" } : Jvm.MethodName)) ∈ TB := tb_t (tl_5 28 rfl) rfl
theorem w5_29 : (Jvm.Cond.code ({ cls := "TeethForCoinsModel", name := "told", desc := "(JJZ)J" } : Jvm.MethodName) prog_11_method_52_code (11 : Nat) (Option.some Jvm.ClassFile.FieldType.long)) ∈ TB := tb_t (tl_5 29 rfl) rfl
theorem w5_30 : (Jvm.Cond.methodLink "TeethForCoinsLaw" (120 : Nat) ({ cls := "TeethForCoinsModel", name := "among", desc := "(IIIZ)J" } : Jvm.MethodName)) ∈ TB := tb_t (tl_5 30 rfl) rfl
theorem w5_31 : (Jvm.Cond.instanceMethod ({ cls := "TeethForCoinsModel", name := "among", desc := "(IIIZ)J" } : Jvm.MethodName)) ∈ TB := tb_t (tl_5 31 rfl) rfl
theorem w5_32 : (Jvm.Cond.selects "TeethForCoinsModel" ({ cls := "TeethForCoinsModel", name := "among", desc := "(IIIZ)J" } : Jvm.MethodName) ({ cls := "TeethForCoinsModel", name := "among", desc := "(IIIZ)J" } : Jvm.MethodName)) ∈ TB := tb_t (tl_5 32 rfl) rfl
theorem w5_33 : (Jvm.Cond.code ({ cls := "TeethForCoinsModel", name := "among", desc := "(IIIZ)J" } : Jvm.MethodName) prog_11_method_56_code (10 : Nat) (Option.some Jvm.ClassFile.FieldType.long)) ∈ TB := tb_t (tl_5 33 rfl) rfl
theorem w5_34 : (Jvm.Cond.methodLink "TeethForCoinsLaw" (125 : Nat) ({ cls := "TeethForCoinsModel", name := "rate", desc := "(IIII)I" } : Jvm.MethodName)) ∈ TB := tb_t (tl_5 34 rfl) rfl
theorem w5_35 : (Jvm.Cond.instanceMethod ({ cls := "TeethForCoinsModel", name := "rate", desc := "(IIII)I" } : Jvm.MethodName)) ∈ TB := tb_t (tl_5 35 rfl) rfl
theorem w5_36 : (Jvm.Cond.selects "TeethForCoinsModel" ({ cls := "TeethForCoinsModel", name := "rate", desc := "(IIII)I" } : Jvm.MethodName) ({ cls := "TeethForCoinsModel", name := "rate", desc := "(IIII)I" } : Jvm.MethodName)) ∈ TB := tb_t (tl_5 36 rfl) rfl
theorem w5_37 : (Jvm.Cond.code ({ cls := "TeethForCoinsModel", name := "rate", desc := "(IIII)I" } : Jvm.MethodName) prog_11_method_57_code (6 : Nat) (Option.some Jvm.ClassFile.FieldType.int)) ∈ TB := tb_t (tl_5 37 rfl) rfl
theorem w5_38 : (Jvm.Cond.constantLong "TeethForCoinsModel" (277 : Nat) (99 : Int64)) ∈ TB := tb_t (tl_5 38 rfl) rfl
theorem w5_39 : (Jvm.Cond.methodLink "TeethForCoinsLaw" (130 : Nat) ({ cls := "TeethForCoinsModel", name := "ring", desc := "(Z)J" } : Jvm.MethodName)) ∈ TB := tb_t (tl_5 39 rfl) rfl
theorem w5_40 : (Jvm.Cond.instanceMethod ({ cls := "TeethForCoinsModel", name := "ring", desc := "(Z)J" } : Jvm.MethodName)) ∈ TB := tb_t (tl_5 40 rfl) rfl
theorem w5_41 : (Jvm.Cond.selects "TeethForCoinsModel" ({ cls := "TeethForCoinsModel", name := "ring", desc := "(Z)J" } : Jvm.MethodName) ({ cls := "TeethForCoinsModel", name := "ring", desc := "(Z)J" } : Jvm.MethodName)) ∈ TB := tb_t (tl_5 41 rfl) rfl
theorem w5_42 : (Jvm.Cond.code ({ cls := "TeethForCoinsModel", name := "ring", desc := "(Z)J" } : Jvm.MethodName) prog_11_method_60_code (2 : Nat) (Option.some Jvm.ClassFile.FieldType.long)) ∈ TB := tb_t (tl_5 42 rfl) rfl
theorem w5_43 : (Jvm.Cond.methodLink "TeethForCoinsModel" (292 : Nat) ({ cls := "TeethForCoinsModel", name := "findRing", desc := "()V" } : Jvm.MethodName)) ∈ TB := tb_t (tl_5 43 rfl) rfl
theorem w5_45 : (Jvm.Cond.instanceMethod ({ cls := "TeethForCoinsModel", name := "findRing", desc := "()V" } : Jvm.MethodName)) ∈ TB := tb_t (tl_5 45 rfl) rfl
theorem w5_46 : (Jvm.Cond.code ({ cls := "TeethForCoinsModel", name := "findRing", desc := "()V" } : Jvm.MethodName) prog_11_method_59_code (9 : Nat) (Option.none : Option Jvm.ClassFile.FieldType)) ∈ TB := tb_t (tl_5 46 rfl) rfl
theorem w5_47 : (Jvm.Cond.methodLink "TeethForCoinsModel" (286 : Nat) ({ cls := "TeethForCoinsModel", name := "layRing", desc := "(II)Z" } : Jvm.MethodName)) ∈ TB := tb_t (tl_5 47 rfl) rfl
theorem w5_49 : (Jvm.Cond.instanceMethod ({ cls := "TeethForCoinsModel", name := "layRing", desc := "(II)Z" } : Jvm.MethodName)) ∈ TB := tb_t (tl_5 49 rfl) rfl
theorem w5_50 : (Jvm.Cond.code ({ cls := "TeethForCoinsModel", name := "layRing", desc := "(II)Z" } : Jvm.MethodName) prog_11_method_58_code (7 : Nat) (Option.some Jvm.ClassFile.FieldType.boolean)) ∈ TB := tb_t (tl_5 50 rfl) rfl
theorem w5_51 : (Jvm.Cond.methodLink "TeethForCoinsLaw" (134 : Nat) ({ cls := "TeethForCoinsModel", name := "ringAt", desc := "(I)I" } : Jvm.MethodName)) ∈ TB := tb_t (tl_5 51 rfl) rfl
theorem w5_52 : (Jvm.Cond.instanceMethod ({ cls := "TeethForCoinsModel", name := "ringAt", desc := "(I)I" } : Jvm.MethodName)) ∈ TB := tb_t (tl_5 52 rfl) rfl
theorem w5_53 : (Jvm.Cond.selects "TeethForCoinsModel" ({ cls := "TeethForCoinsModel", name := "ringAt", desc := "(I)I" } : Jvm.MethodName) ({ cls := "TeethForCoinsModel", name := "ringAt", desc := "(I)I" } : Jvm.MethodName)) ∈ TB := tb_t (tl_5 53 rfl) rfl
theorem w5_54 : (Jvm.Cond.code ({ cls := "TeethForCoinsModel", name := "ringAt", desc := "(I)I" } : Jvm.MethodName) prog_11_method_61_code (2 : Nat) (Option.some Jvm.ClassFile.FieldType.int)) ∈ TB := tb_t (tl_5 54 rfl) rfl
theorem w5_55 : (Jvm.Cond.methodLink "TeethForCoinsLaw" (138 : Nat) ({ cls := "TeethForCoinsModel", name := "should", desc := "(II)I" } : Jvm.MethodName)) ∈ TB := tb_t (tl_5 55 rfl) rfl
theorem w5_56 : (Jvm.Cond.instanceMethod ({ cls := "TeethForCoinsModel", name := "should", desc := "(II)I" } : Jvm.MethodName)) ∈ TB := tb_t (tl_5 56 rfl) rfl
theorem w5_57 : (Jvm.Cond.selects "TeethForCoinsModel" ({ cls := "TeethForCoinsModel", name := "should", desc := "(II)I" } : Jvm.MethodName) ({ cls := "TeethForCoinsModel", name := "should", desc := "(II)I" } : Jvm.MethodName)) ∈ TB := tb_t (tl_5 57 rfl) rfl
theorem w5_58 : (Jvm.Cond.code ({ cls := "TeethForCoinsModel", name := "should", desc := "(II)I" } : Jvm.MethodName) prog_11_method_62_code (4 : Nat) (Option.some Jvm.ClassFile.FieldType.int)) ∈ TB := tb_t (tl_5 58 rfl) rfl
theorem w5_59 : (Jvm.Cond.methodLink "TeethForCoinsLaw" (142 : Nat) ({ cls := "TeethForCoinsModel", name := "stolen", desc := "()I" } : Jvm.MethodName)) ∈ TB := tb_t (tl_5 59 rfl) rfl
theorem w5_60 : (Jvm.Cond.instanceMethod ({ cls := "TeethForCoinsModel", name := "stolen", desc := "()I" } : Jvm.MethodName)) ∈ TB := tb_t (tl_5 60 rfl) rfl
theorem w5_61 : (Jvm.Cond.selects "TeethForCoinsModel" ({ cls := "TeethForCoinsModel", name := "stolen", desc := "()I" } : Jvm.MethodName) ({ cls := "TeethForCoinsModel", name := "stolen", desc := "()I" } : Jvm.MethodName)) ∈ TB := tb_t (tl_5 61 rfl) rfl
theorem w5_62 : (Jvm.Cond.code ({ cls := "TeethForCoinsModel", name := "stolen", desc := "()I" } : Jvm.MethodName) prog_11_method_64_code (1 : Nat) (Option.some Jvm.ClassFile.FieldType.int)) ∈ TB := tb_t (tl_5 62 rfl) rfl
theorem w5_63 : (Jvm.Cond.methodLink "TeethForCoinsModel" (295 : Nat) ({ cls := "TeethForCoinsModel", name := "stolenSet", desc := "()I" } : Jvm.MethodName)) ∈ TB := tb_t (tl_5 63 rfl) rfl
theorem w5_65 : (Jvm.Cond.instanceMethod ({ cls := "TeethForCoinsModel", name := "stolenSet", desc := "()I" } : Jvm.MethodName)) ∈ TB := tb_t (tl_5 65 rfl) rfl
theorem w5_66 : (Jvm.Cond.code ({ cls := "TeethForCoinsModel", name := "stolenSet", desc := "()I" } : Jvm.MethodName) prog_11_method_63_code (3 : Nat) (Option.some Jvm.ClassFile.FieldType.int)) ∈ TB := tb_t (tl_5 66 rfl) rfl
theorem w5_67 : (Jvm.Cond.methodLink "TeethForCoinsLaw" (146 : Nat) ({ cls := "TeethForCoinsModel", name := "thief", desc := "()I" } : Jvm.MethodName)) ∈ TB := tb_t (tl_5 67 rfl) rfl
theorem w5_68 : (Jvm.Cond.instanceMethod ({ cls := "TeethForCoinsModel", name := "thief", desc := "()I" } : Jvm.MethodName)) ∈ TB := tb_t (tl_5 68 rfl) rfl
theorem w5_69 : (Jvm.Cond.selects "TeethForCoinsModel" ({ cls := "TeethForCoinsModel", name := "thief", desc := "()I" } : Jvm.MethodName) ({ cls := "TeethForCoinsModel", name := "thief", desc := "()I" } : Jvm.MethodName)) ∈ TB := tb_t (tl_5 69 rfl) rfl
theorem w5_70 : (Jvm.Cond.code ({ cls := "TeethForCoinsModel", name := "thief", desc := "()I" } : Jvm.MethodName) prog_11_method_65_code (7 : Nat) (Option.some Jvm.ClassFile.FieldType.int)) ∈ TB := tb_t (tl_5 70 rfl) rfl
theorem w5_71 : (Jvm.Cond.methodLink "TeethForCoinsLaw" (150 : Nat) ({ cls := "TeethForCoinsModel", name := "keep", desc := "(I)I" } : Jvm.MethodName)) ∈ TB := tb_t (tl_5 71 rfl) rfl
theorem w5_72 : (Jvm.Cond.instanceMethod ({ cls := "TeethForCoinsModel", name := "keep", desc := "(I)I" } : Jvm.MethodName)) ∈ TB := tb_t (tl_5 72 rfl) rfl
theorem w5_73 : (Jvm.Cond.selects "TeethForCoinsModel" ({ cls := "TeethForCoinsModel", name := "keep", desc := "(I)I" } : Jvm.MethodName) ({ cls := "TeethForCoinsModel", name := "keep", desc := "(I)I" } : Jvm.MethodName)) ∈ TB := tb_t (tl_5 73 rfl) rfl
theorem w5_74 : (Jvm.Cond.code ({ cls := "TeethForCoinsModel", name := "keep", desc := "(I)I" } : Jvm.MethodName) prog_11_method_66_code (3 : Nat) (Option.some Jvm.ClassFile.FieldType.int)) ∈ TB := tb_t (tl_5 74 rfl) rfl
theorem w5_75 : (Jvm.Cond.methodLink "TeethForCoinsLaw" (154 : Nat) ({ cls := "TeethForCoinsModel", name := "again", desc := "(I)I" } : Jvm.MethodName)) ∈ TB := tb_t (tl_5 75 rfl) rfl
theorem w5_76 : (Jvm.Cond.instanceMethod ({ cls := "TeethForCoinsModel", name := "again", desc := "(I)I" } : Jvm.MethodName)) ∈ TB := tb_t (tl_5 76 rfl) rfl
theorem w5_77 : (Jvm.Cond.selects "TeethForCoinsModel" ({ cls := "TeethForCoinsModel", name := "again", desc := "(I)I" } : Jvm.MethodName) ({ cls := "TeethForCoinsModel", name := "again", desc := "(I)I" } : Jvm.MethodName)) ∈ TB := tb_t (tl_5 77 rfl) rfl
theorem w5_78 : (Jvm.Cond.code ({ cls := "TeethForCoinsModel", name := "again", desc := "(I)I" } : Jvm.MethodName) prog_11_method_67_code (3 : Nat) (Option.some Jvm.ClassFile.FieldType.int)) ∈ TB := tb_t (tl_5 78 rfl) rfl
theorem w5_79 : (Jvm.Cond.constantLong "TeethForCoinsLaw" (13 : Nat) (4294967295 : Int64)) ∈ TB := tb_t (tl_5 79 rfl) rfl
def mX0_remember : MR := (yX0_remember, cX0_remember, 2, none, 3, 84)
def mX0_takeBack : MR := (yX0_takeBack, cX0_takeBack, 2, none, 3, 86)
def mX0_copyFrom : MR := (yX0_copyFrom, cX0_copyFrom, 3, none, 3, 84)
def mX1_add : MR := (yX1_add, cX1_add, 3, none, 0, 0)
def mX1_priceOf : MR := (yX1_priceOf, cX1_priceOf, 2, (some .int), 0, 0)
def mX1_useOf : MR := (yX1_useOf, cX1_useOf, 2, (some .int), 0, 0)
def mX1_priceOfSet : MR := (yX1_priceOfSet, cX1_priceOfSet, 4, (some .int), 1, 21)
def mX1_useOfSet : MR := (yX1_useOfSet, cX1_useOfSet, 4, (some .int), 1, 21)
def mX2_clear : MR := (yX2_clear, cX2_clear, 1, none, 0, 0)
def mX2_offer : MR := (yX2_offer, cX2_offer, 4, none, 0, 0)
def mX3_gotFor : MR := (yX3_gotFor, cX3_gotFor, 4, (some .int), 0, 0)
def mX3_givenFor : MR := (yX3_givenFor, cX3_givenFor, 4, (some .int), 0, 0)
def mX3_put : MR := (yX3_put, cX3_put, 6, none, 0, 0)
def mX3_copyFrom : MR := (yX3_copyFrom, cX3_copyFrom, 2, none, 1, 40)
def mX4_clear : MR := (yX4_clear, cX4_clear, 1, none, 0, 0)
def mX4_moneyAt : MR := (yX4_moneyAt, cX4_moneyAt, 3, (some .int), 0, 0)
def mX4_isRing : MR := (yX4_isRing, cX4_isRing, 6, (some .boolean), 1, 22)
def mX4_offer : MR := (yX4_offer, cX4_offer, 11, none, 1, 23)
def mX5_takeIn : MR := (yX5_takeIn, cX5_takeIn, 4, none, 4, 106)
def mX5_giveOut : MR := (yX5_giveOut, cX5_giveOut, 4, none, 4, 106)
def mX6_get : MR := (yX6_get, cX6_get, 4, (some .int), 0, 0)
def mX6_set : MR := (yX6_set, cX6_set, 5, none, 0, 0)
def mX6_add : MR := (yX6_add, cX6_add, 5, (some .int), 2, 47)
def mX6_passTo : MR := (yX6_passTo, cX6_passTo, 4, none, 1, 24)
def mX6_traceOf : MR := (yX6_traceOf, cX6_traceOf, 3, (some .int), 1, 23)
def mX6_wearDown : MR := (yX6_wearDown, cX6_wearDown, 2, none, 1, 40)
def mX6_ownedBy : MR := (yX6_ownedBy, cX6_ownedBy, 4, (some .int), 1, 23)
def mX6_fakes : MR := (yX6_fakes, cX6_fakes, 3, (some .int), 1, 23)
def mX6_wearTooMuch : MR := (yX6_wearTooMuch, cX6_wearTooMuch, 2, (some .int), 1, 40)
def mX6_wearTooMuchOf : MR := (yX6_wearTooMuchOf, cX6_wearTooMuchOf, 4, (some .int), 2, 61)
def mX6_copyFrom : MR := (yX6_copyFrom, cX6_copyFrom, 2, none, 2, 63)
def mX6_takeBack : MR := (yX6_takeBack, cX6_takeBack, 4, none, 2, 63)
def mX6_copyCells : MR := (yX6_copyCells, cX6_copyCells, 4, none, 1, 40)
def mX7_append : MR := (yX7_append, cX7_append, 2, none, 0, 0)
def mX7_byteAt : MR := (yX7_byteAt, cX7_byteAt, 2, (some .int), 0, 0)
def mX7_figureAt : MR := (yX7_figureAt, cX7_figureAt, 2, (some .int), 1, 21)
def mX7_tellsTooth : MR := (yX7_tellsTooth, cX7_tellsTooth, 1, (some .boolean), 0, 0)
def mX7_partLength : MR := (yX7_partLength, cX7_partLength, 1, (some .int), 0, 0)
def mX7_faultPlace : MR := (yX7_faultPlace, cX7_faultPlace, 7, (some .int), 3, 69)
def mX7_mayBegin : MR := (yX7_mayBegin, cX7_mayBegin, 3, (some .boolean), 1, 20)
def mX7_mayFollow : MR := (yX7_mayFollow, cX7_mayFollow, 8, (some .boolean), 2, 42)
def mX8_write : MR := (yX8_write, cX8_write, 5, (some .int), 1, 21)
def mX8_wipe : MR := (yX8_wipe, cX8_wipe, 2, (some .int), 0, 0)
def mX8_fault : MR := (yX8_fault, cX8_fault, 1, (some .int), 4, 95)
def mX8_market : MR := (yX8_market, cX8_market, 2, (some .int), 4, 95)
def mX8_about : MR := (yX8_about, cX8_about, 2, (some .int), 2, 45)
def mX8_tooth : MR := (yX8_tooth, cX8_tooth, 3, (some .int), 3, 84)
def mX8_good : MR := (yX8_good, cX8_good, 3, (some .int), 1, 21)
def mX8_purse : MR := (yX8_purse, cX8_purse, 2, (some .int), 4, 107)
def mX8_handle : MR := (yX8_handle, cX8_handle, 2, (some .int), 3, 84)
def mX8_bite : MR := (yX8_bite, cX8_bite, 3, (some .int), 3, 84)
def mX8_fewest : MR := (yX8_fewest, cX8_fewest, 5, (some .int), 5, 136)
def mX8_paid : MR := (yX8_paid, cX8_paid, 6, (some .int), 5, 136)
def mX8_pay : MR := (yX8_pay, cX8_pay, 5, (some .int), 5, 136)
def mX8_undo : MR := (yX8_undo, cX8_undo, 1, (some .int), 4, 107)
def mX8_tooMuch : MR := (yX8_tooMuch, cX8_tooMuch, 4, (some .int), 5, 132)
def mX8_sums : MR := (yX8_sums, cX8_sums, 9, (some .int), 4, 109)
def mX8_spent : MR := (yX8_spent, cX8_spent, 6, (some .int), 4, 107)
def mX8_caught : MR := (yX8_caught, cX8_caught, 4, (some .int), 4, 96)
def mX8_washed : MR := (yX8_washed, cX8_washed, 7, (some .int), 4, 96)
def mX8_life : MR := (yX8_life, cX8_life, 5, (some .int), 2, 63)
def mX8_trace : MR := (yX8_trace, cX8_trace, 3, (some .int), 2, 45)
def mX8_inflated : MR := (yX8_inflated, cX8_inflated, 4, (some .int), 4, 107)
def mX8_doubt : MR := (yX8_doubt, cX8_doubt, 11, (some .long), 2, 56)
def mX8_among : MR := (yX8_among, cX8_among, 10, (some .long), 2, 56)
def mX8_rate : MR := (yX8_rate, cX8_rate, 6, (some .int), 1, 25)
def mX8_ring : MR := (yX8_ring, cX8_ring, 2, (some .long), 3, 76)
def mX8_ringAt : MR := (yX8_ringAt, cX8_ringAt, 2, (some .int), 3, 76)
def mX8_should : MR := (yX8_should, cX8_should, 4, (some .int), 1, 24)
def mX8_stolen : MR := (yX8_stolen, cX8_stolen, 3, (some .int), 2, 61)
def mX8_thief : MR := (yX8_thief, cX8_thief, 5, (some .int), 3, 84)
def mX8_keep : MR := (yX8_keep, cX8_keep, 2, (some .int), 5, 129)
def mX8_again : MR := (yX8_again, cX8_again, 2, (some .int), 5, 129)
def mX8_isTooth : MR := (yX8_isTooth, cX8_isTooth, 2, (some .boolean), 0, 0)
def mX8_isGood : MR := (yX8_isGood, cX8_isGood, 2, (some .boolean), 0, 0)
def mX8_isSlot : MR := (yX8_isSlot, cX8_isSlot, 2, (some .boolean), 0, 0)
def mX8_isPerson : MR := (yX8_isPerson, cX8_isPerson, 1, (some .boolean), 0, 0)
def mX8_isMoney : MR := (yX8_isMoney, cX8_isMoney, 1, (some .boolean), 0, 0)
def mX8_isPrice : MR := (yX8_isPrice, cX8_isPrice, 1, (some .boolean), 0, 0)
def mX8_isTenths : MR := (yX8_isTenths, cX8_isTenths, 1, (some .boolean), 0, 0)
def mX8_paymentRefusal : MR := (yX8_paymentRefusal, cX8_paymentRefusal, 3, (some .int), 1, 20)
def mX8_readPart : MR := (yX8_readPart, cX8_readPart, 4, none, 3, 71)
def mX8_worthWorn : MR := (yX8_worthWorn, cX8_worthWorn, 4, (some .int), 1, 40)
def mX8_worthOf : MR := (yX8_worthOf, cX8_worthOf, 2, (some .int), 2, 63)
def mX8_worthOfSet : MR := (yX8_worthOfSet, cX8_worthOfSet, 4, (some .int), 3, 84)
def mX8_setsOfTeeth : MR := (yX8_setsOfTeeth, cX8_setsOfTeeth, 1, (some .int), 1, 40)
def mX8_weighSets : MR := (yX8_weighSets, cX8_weighSets, 6, none, 3, 84)
def mX8_seekFewest : MR := (yX8_seekFewest, cX8_seekFewest, 8, none, 4, 109)
def mX8_seekTooMuch : MR := (yX8_seekTooMuch, cX8_seekTooMuch, 4, none, 4, 109)
def mX8_handOver : MR := (yX8_handOver, cX8_handOver, 4, none, 2, 61)
def mX8_drawFrom : MR := (yX8_drawFrom, cX8_drawFrom, 2, (some .long), 0, 0)
def mX8_addDrawn : MR := (yX8_addDrawn, cX8_addDrawn, 6, none, 3, 71)
def mX8_power : MR := (yX8_power, cX8_power, 6, (some .long), 0, 0)
def mX8_ofFraction : MR := (yX8_ofFraction, cX8_ofFraction, 7, (some .long), 1, 30)
def mX8_commonDivisor : MR := (yX8_commonDivisor, cX8_commonDivisor, 11, (some .long), 0, 0)
def mX8_seekRing : MR := (yX8_seekRing, cX8_seekRing, 4, none, 2, 53)
def mX9_in : MR := (yX9_in, cX9_in, 6, (some .boolean), 0, 0)
def mX9_has : MR := (yX9_has, cX9_has, 2, (some .boolean), 0, 0)
def mX9_many : MR := (yX9_many, cX9_many, 3, (some .int), 0, 0)
def mX9_noTooth : MR := (yX9_noTooth, cX9_noTooth, 2, (some .boolean), 1, 25)
def mX9_noOne : MR := (yX9_noOne, cX9_noOne, 1, (some .boolean), 1, 25)
def mX9_write : MR := (yX9_write, cX9_write, 5, (some .int), 1, 25)
def mX9_wipe : MR := (yX9_wipe, cX9_wipe, 2, (some .int), 0, 0)
def mX9_figure : MR := (yX9_figure, cX9_figure, 3, (some .int), 1, 25)
def mX9_side : MR := (yX9_side, cX9_side, 1, (some .int), 0, 0)
def mX9_readTooth : MR := (yX9_readTooth, cX9_readTooth, 6, (some .boolean), 2, 47)
def mX9_readGood : MR := (yX9_readGood, cX9_readGood, 4, (some .boolean), 2, 47)
def mX9_readPart : MR := (yX9_readPart, cX9_readPart, 4, (some .boolean), 3, 72)
def mX9_readMarket : MR := (yX9_readMarket, cX9_readMarket, 1, (some .int), 4, 95)
def mX9_fault : MR := (yX9_fault, cX9_fault, 1, (some .int), 5, 115)
def mX9_come : MR := (yX9_come, cX9_come, 2, none, 0, 0)
def mX9_market : MR := (yX9_market, cX9_market, 2, (some .int), 5, 115)
def mX9_fakes : MR := (yX9_fakes, cX9_fakes, 3, (some .int), 0, 0)
def mX9_about : MR := (yX9_about, cX9_about, 2, (some .int), 1, 22)
def mX9_worthBy : MR := (yX9_worthBy, cX9_worthBy, 4, (some .int), 0, 0)
def mX9_worth : MR := (yX9_worth, cX9_worth, 2, (some .int), 1, 23)
def mX9_tooth : MR := (yX9_tooth, cX9_tooth, 3, (some .int), 2, 46)
def mX9_good : MR := (yX9_good, cX9_good, 3, (some .int), 1, 25)
def mX9_setOf : MR := (yX9_setOf, cX9_setOf, 4, (some .int), 0, 0)
def mX9_worthOf : MR := (yX9_worthOf, cX9_worthOf, 4, (some .int), 2, 44)
def mX9_purse : MR := (yX9_purse, cX9_purse, 2, (some .int), 3, 67)
def mX9_goHandle : MR := (yX9_goHandle, cX9_goHandle, 2, none, 0, 0)
def mX9_handle : MR := (yX9_handle, cX9_handle, 2, (some .int), 2, 46)
def mX9_bite : MR := (yX9_bite, cX9_bite, 2, (some .int), 2, 46)
def mX9_next : MR := (yX9_next, cX9_next, 2, (some .int), 0, 0)
def mX9_findFewest : MR := (yX9_findFewest, cX9_findFewest, 13, (some .int), 3, 67)
def mX9_noPay : MR := (yX9_noPay, cX9_noPay, 3, (some .int), 2, 45)
def mX9_fewest : MR := (yX9_fewest, cX9_fewest, 5, (some .int), 4, 99)
def mX9_paid : MR := (yX9_paid, cX9_paid, 6, (some .int), 4, 99)
def mX9_lay : MR := (yX9_lay, cX9_lay, 4, none, 0, 0)
def mX9_take : MR := (yX9_take, cX9_take, 5, none, 0, 0)
def mX9_goOver : MR := (yX9_goOver, cX9_goOver, 4, none, 1, 21)
def mX9_pay : MR := (yX9_pay, cX9_pay, 6, (some .int), 4, 99)
def mX9_undo : MR := (yX9_undo, cX9_undo, 1, (some .int), 1, 24)
def mX9_findMuch : MR := (yX9_findMuch, cX9_findMuch, 9, (some .int), 3, 67)
def mX9_tooMuch : MR := (yX9_tooMuch, cX9_tooMuch, 5, (some .int), 4, 95)
def mX9_sums : MR := (yX9_sums, cX9_sums, 12, (some .int), 3, 67)
def mX9_spent : MR := (yX9_spent, cX9_spent, 11, (some .int), 3, 67)
def mX9_add : MR := (yX9_add, cX9_add, 6, none, 1, 21)
def mX9_draw : MR := (yX9_draw, cX9_draw, 2, (some .long), 0, 0)
def mX9_caught : MR := (yX9_caught, cX9_caught, 4, (some .int), 2, 46)
def mX9_washed : MR := (yX9_washed, cX9_washed, 7, (some .int), 2, 46)
def mX9_life : MR := (yX9_life, cX9_life, 4, (some .int), 2, 46)
def mX9_trace : MR := (yX9_trace, cX9_trace, 3, (some .int), 2, 46)
def mX9_inflated : MR := (yX9_inflated, cX9_inflated, 4, (some .int), 3, 67)
def mX9_told : MR := (yX9_told, cX9_told, 11, (some .long), 0, 0)
def mX9_power : MR := (yX9_power, cX9_power, 6, (some .long), 0, 0)
def mX9_noTenths : MR := (yX9_noTenths, cX9_noTenths, 1, (some .boolean), 1, 25)
def mX9_doubt : MR := (yX9_doubt, cX9_doubt, 11, (some .long), 2, 45)
def mX9_among : MR := (yX9_among, cX9_among, 10, (some .long), 2, 45)
def mX9_rate : MR := (yX9_rate, cX9_rate, 6, (some .int), 2, 45)
def mX9_layRing : MR := (yX9_layRing, cX9_layRing, 7, (some .boolean), 0, 0)
def mX9_findRing : MR := (yX9_findRing, cX9_findRing, 9, none, 1, 26)
def mX9_ring : MR := (yX9_ring, cX9_ring, 2, (some .long), 2, 54)
def mX9_ringAt : MR := (yX9_ringAt, cX9_ringAt, 2, (some .int), 2, 54)
def mX9_should : MR := (yX9_should, cX9_should, 4, (some .int), 2, 46)
def mX9_stolenSet : MR := (yX9_stolenSet, cX9_stolenSet, 3, (some .int), 0, 0)
def mX9_stolen : MR := (yX9_stolen, cX9_stolen, 1, (some .int), 1, 22)
def mX9_thief : MR := (yX9_thief, cX9_thief, 7, (some .int), 1, 22)
def mX9_keep : MR := (yX9_keep, cX9_keep, 3, (some .int), 1, 25)
def mX9_again : MR := (yX9_again, cX9_again, 3, (some .int), 1, 25)
def mJ6_bitCount_0f7a4 : MR := (yJ6_bitCount_0f7a4, cJ6_bitCount_0f7a4, 1, (some .int), 0, 0)
def mJ7_fill_53178 : MR := (yJ7_fill_53178, cJ7_fill_53178, 4, none, 0, 0)
def mL_law : MR := (yL_law, cL_law, 4, (some .boolean), 6, 161)
theorem oc_X0_remember : okC mX0_remember 1 := ⟨⟨by decide +kernel, by decide +kernel⟩, w2_169, w1_5, by decide +kernel, by decide +kernel, by decide +kernel⟩
theorem im_X0_remember : Cond.instanceMethod mX0_remember.1 ∈ TB := w2_168
theorem se_X0_remember : Cond.selects mX0_remember.1.cls mX0_remember.1 mX0_remember.1 ∈ TB := tb_p 26 rfl rfl
theorem oc_X0_takeBack : okC mX0_takeBack 1 := ⟨⟨by decide +kernel, by decide +kernel⟩, w2_193, w1_5, by decide +kernel, by decide +kernel, by decide +kernel⟩
theorem im_X0_takeBack : Cond.instanceMethod mX0_takeBack.1 ∈ TB := w2_192
theorem se_X0_takeBack : Cond.selects mX0_takeBack.1.cls mX0_takeBack.1 mX0_takeBack.1 ∈ TB := tb_p 30 rfl rfl
theorem oc_X0_copyFrom : okC mX0_copyFrom 1 := ⟨⟨by decide +kernel, by decide +kernel⟩, w3_129, w1_5, by decide +kernel, by decide +kernel, by decide +kernel⟩
theorem im_X0_copyFrom : Cond.instanceMethod mX0_copyFrom.1 ∈ TB := w3_128
theorem se_X0_copyFrom : Cond.selects mX0_copyFrom.1.cls mX0_copyFrom.1 mX0_copyFrom.1 ∈ TB := tb_p 47 rfl rfl
theorem oc_X1_add : okC mX1_add 2 := ⟨⟨by decide +kernel, by decide +kernel⟩, w2_45, w1_4, by decide +kernel, by decide +kernel, by decide +kernel⟩
theorem im_X1_add : Cond.instanceMethod mX1_add.1 ∈ TB := w2_44
theorem se_X1_add : Cond.selects mX1_add.1.cls mX1_add.1 mX1_add.1 ∈ TB := tb_p 10 rfl rfl
theorem oc_X1_priceOf : okC mX1_priceOf 1 := ⟨⟨by decide +kernel, by decide +kernel⟩, w2_86, w1_4, by decide +kernel, by decide +kernel, by decide +kernel⟩
theorem im_X1_priceOf : Cond.instanceMethod mX1_priceOf.1 ∈ TB := w2_85
theorem se_X1_priceOf : Cond.selects mX1_priceOf.1.cls mX1_priceOf.1 mX1_priceOf.1 ∈ TB := tb_p 16 rfl rfl
theorem oc_X1_useOf : okC mX1_useOf 1 := ⟨⟨by decide +kernel, by decide +kernel⟩, w2_90, w1_4, by decide +kernel, by decide +kernel, by decide +kernel⟩
theorem im_X1_useOf : Cond.instanceMethod mX1_useOf.1 ∈ TB := w2_89
theorem se_X1_useOf : Cond.selects mX1_useOf.1.cls mX1_useOf.1 mX1_useOf.1 ∈ TB := tb_p 17 rfl rfl
theorem oc_X1_priceOfSet : okC mX1_priceOfSet 1 := ⟨⟨by decide +kernel, by decide +kernel⟩, w2_218, w1_4, by decide +kernel, by decide +kernel, by decide +kernel⟩
theorem im_X1_priceOfSet : Cond.instanceMethod mX1_priceOfSet.1 ∈ TB := w2_217
theorem se_X1_priceOfSet : Cond.selects mX1_priceOfSet.1.cls mX1_priceOfSet.1 mX1_priceOfSet.1 ∈ TB := tb_p 33 rfl rfl
theorem oc_X1_useOfSet : okC mX1_useOfSet 1 := ⟨⟨by decide +kernel, by decide +kernel⟩, w2_223, w1_4, by decide +kernel, by decide +kernel, by decide +kernel⟩
theorem im_X1_useOfSet : Cond.instanceMethod mX1_useOfSet.1 ∈ TB := w2_222
theorem se_X1_useOfSet : Cond.selects mX1_useOfSet.1.cls mX1_useOfSet.1 mX1_useOfSet.1 ∈ TB := tb_p 34 rfl rfl
theorem oc_X2_clear : okC mX2_clear 0 := ⟨⟨by decide +kernel, by decide +kernel⟩, w2_142, w1_8, by decide +kernel, by decide +kernel, by decide +kernel⟩
theorem im_X2_clear : Cond.instanceMethod mX2_clear.1 ∈ TB := w2_141
theorem se_X2_clear : Cond.selects mX2_clear.1.cls mX2_clear.1 mX2_clear.1 ∈ TB := tb_p 23 rfl rfl
theorem oc_X2_offer : okC mX2_offer 3 := ⟨⟨by decide +kernel, by decide +kernel⟩, w2_157, w1_8, by decide +kernel, by decide +kernel, by decide +kernel⟩
theorem im_X2_offer : Cond.instanceMethod mX2_offer.1 ∈ TB := w2_156
theorem se_X2_offer : Cond.selects mX2_offer.1.cls mX2_offer.1 mX2_offer.1 ∈ TB := tb_p 25 rfl rfl
theorem oc_X3_gotFor : okC mX3_gotFor 2 := ⟨⟨by decide +kernel, by decide +kernel⟩, w3_53, w1_6, by decide +kernel, by decide +kernel, by decide +kernel⟩
theorem im_X3_gotFor : Cond.instanceMethod mX3_gotFor.1 ∈ TB := w3_52
theorem se_X3_gotFor : Cond.selects mX3_gotFor.1.cls mX3_gotFor.1 mX3_gotFor.1 ∈ TB := tb_p 37 rfl rfl
theorem oc_X3_givenFor : okC mX3_givenFor 2 := ⟨⟨by decide +kernel, by decide +kernel⟩, w3_57, w1_6, by decide +kernel, by decide +kernel, by decide +kernel⟩
theorem im_X3_givenFor : Cond.instanceMethod mX3_givenFor.1 ∈ TB := w3_56
theorem se_X3_givenFor : Cond.selects mX3_givenFor.1.cls mX3_givenFor.1 mX3_givenFor.1 ∈ TB := tb_p 38 rfl rfl
theorem oc_X3_put : okC mX3_put 4 := ⟨⟨by decide +kernel, by decide +kernel⟩, w3_61, w1_6, by decide +kernel, by decide +kernel, by decide +kernel⟩
theorem im_X3_put : Cond.instanceMethod mX3_put.1 ∈ TB := w3_60
theorem se_X3_put : Cond.selects mX3_put.1.cls mX3_put.1 mX3_put.1 ∈ TB := tb_p 39 rfl rfl
theorem oc_X3_copyFrom : okC mX3_copyFrom 1 := ⟨⟨by decide +kernel, by decide +kernel⟩, w3_133, w1_6, by decide +kernel, by decide +kernel, by decide +kernel⟩
theorem im_X3_copyFrom : Cond.instanceMethod mX3_copyFrom.1 ∈ TB := w3_132
theorem se_X3_copyFrom : Cond.selects mX3_copyFrom.1.cls mX3_copyFrom.1 mX3_copyFrom.1 ∈ TB := tb_p 48 rfl rfl
theorem oc_X4_clear : okC mX4_clear 0 := ⟨⟨by decide +kernel, by decide +kernel⟩, w3_73, w1_9, by decide +kernel, by decide +kernel, by decide +kernel⟩
theorem im_X4_clear : Cond.instanceMethod mX4_clear.1 ∈ TB := w3_72
theorem se_X4_clear : Cond.selects mX4_clear.1.cls mX4_clear.1 mX4_clear.1 ∈ TB := tb_p 41 rfl rfl
theorem oc_X4_moneyAt : okC mX4_moneyAt 3 := ⟨⟨by decide +kernel, by decide +kernel⟩, w3_79, w1_9, by decide +kernel, by decide +kernel, by decide +kernel⟩
theorem sm_X4_moneyAt : Cond.static mX4_moneyAt.1 ∈ TB := w3_78
theorem oc_X4_isRing : okC mX4_isRing 2 := ⟨⟨by decide +kernel, by decide +kernel⟩, w3_76, w1_9, by decide +kernel, by decide +kernel, by decide +kernel⟩
theorem sm_X4_isRing : Cond.static mX4_isRing.1 ∈ TB := w3_75
theorem oc_X4_offer : okC mX4_offer 3 := ⟨⟨by decide +kernel, by decide +kernel⟩, w3_83, w1_9, by decide +kernel, by decide +kernel, by decide +kernel⟩
theorem im_X4_offer : Cond.instanceMethod mX4_offer.1 ∈ TB := w3_82
theorem se_X4_offer : Cond.selects mX4_offer.1.cls mX4_offer.1 mX4_offer.1 ∈ TB := tb_p 42 rfl rfl
theorem oc_X5_takeIn : okC mX5_takeIn 3 := ⟨⟨by decide +kernel, by decide +kernel⟩, w3_124, w1_10, by decide +kernel, by decide +kernel, by decide +kernel⟩
theorem im_X5_takeIn : Cond.instanceMethod mX5_takeIn.1 ∈ TB := w3_123
theorem se_X5_takeIn : Cond.selects mX5_takeIn.1.cls mX5_takeIn.1 mX5_takeIn.1 ∈ TB := tb_p 46 rfl rfl
theorem oc_X5_giveOut : okC mX5_giveOut 3 := ⟨⟨by decide +kernel, by decide +kernel⟩, w3_143, w1_10, by decide +kernel, by decide +kernel, by decide +kernel⟩
theorem im_X5_giveOut : Cond.instanceMethod mX5_giveOut.1 ∈ TB := w3_142
theorem se_X5_giveOut : Cond.selects mX5_giveOut.1.cls mX5_giveOut.1 mX5_giveOut.1 ∈ TB := tb_p 49 rfl rfl
theorem oc_X6_get : okC mX6_get 2 := ⟨⟨by decide +kernel, by decide +kernel⟩, w2_40, w1_3, by decide +kernel, by decide +kernel, by decide +kernel⟩
theorem im_X6_get : Cond.instanceMethod mX6_get.1 ∈ TB := w2_39
theorem se_X6_get : Cond.selects mX6_get.1.cls mX6_get.1 mX6_get.1 ∈ TB := tb_p 9 rfl rfl
theorem oc_X6_set : okC mX6_set 3 := ⟨⟨by decide +kernel, by decide +kernel⟩, w2_32, w1_3, by decide +kernel, by decide +kernel, by decide +kernel⟩
theorem im_X6_set : Cond.instanceMethod mX6_set.1 ∈ TB := w2_31
theorem se_X6_set : Cond.selects mX6_set.1.cls mX6_set.1 mX6_set.1 ∈ TB := tb_p 7 rfl rfl
theorem oc_X6_add : okC mX6_add 3 := ⟨⟨by decide +kernel, by decide +kernel⟩, w2_28, w1_3, by decide +kernel, by decide +kernel, by decide +kernel⟩
theorem im_X6_add : Cond.instanceMethod mX6_add.1 ∈ TB := w2_27
theorem se_X6_add : Cond.selects mX6_add.1.cls mX6_add.1 mX6_add.1 ∈ TB := tb_p 6 rfl rfl
theorem oc_X6_passTo : okC mX6_passTo 2 := ⟨⟨by decide +kernel, by decide +kernel⟩, w2_36, w1_3, by decide +kernel, by decide +kernel, by decide +kernel⟩
theorem im_X6_passTo : Cond.instanceMethod mX6_passTo.1 ∈ TB := w2_35
theorem se_X6_passTo : Cond.selects mX6_passTo.1.cls mX6_passTo.1 mX6_passTo.1 ∈ TB := tb_p 8 rfl rfl
theorem oc_X6_traceOf : okC mX6_traceOf 2 := ⟨⟨by decide +kernel, by decide +kernel⟩, w3_15, w1_3, by decide +kernel, by decide +kernel, by decide +kernel⟩
theorem im_X6_traceOf : Cond.instanceMethod mX6_traceOf.1 ∈ TB := w3_14
theorem se_X6_traceOf : Cond.selects mX6_traceOf.1.cls mX6_traceOf.1 mX6_traceOf.1 ∈ TB := tb_p 36 rfl rfl
theorem oc_X6_wearDown : okC mX6_wearDown 1 := ⟨⟨by decide +kernel, by decide +kernel⟩, w2_113, w1_3, by decide +kernel, by decide +kernel, by decide +kernel⟩
theorem im_X6_wearDown : Cond.instanceMethod mX6_wearDown.1 ∈ TB := w2_112
theorem se_X6_wearDown : Cond.selects mX6_wearDown.1.cls mX6_wearDown.1 mX6_wearDown.1 ∈ TB := tb_p 20 rfl rfl
theorem oc_X6_ownedBy : okC mX6_ownedBy 1 := ⟨⟨by decide +kernel, by decide +kernel⟩, w2_101, w1_3, by decide +kernel, by decide +kernel, by decide +kernel⟩
theorem im_X6_ownedBy : Cond.instanceMethod mX6_ownedBy.1 ∈ TB := w2_100
theorem se_X6_ownedBy : Cond.selects mX6_ownedBy.1.cls mX6_ownedBy.1 mX6_ownedBy.1 ∈ TB := tb_p 18 rfl rfl
theorem oc_X6_fakes : okC mX6_fakes 0 := ⟨⟨by decide +kernel, by decide +kernel⟩, w2_57, w1_3, by decide +kernel, by decide +kernel, by decide +kernel⟩
theorem im_X6_fakes : Cond.instanceMethod mX6_fakes.1 ∈ TB := w2_56
theorem se_X6_fakes : Cond.selects mX6_fakes.1.cls mX6_fakes.1 mX6_fakes.1 ∈ TB := tb_p 11 rfl rfl
theorem oc_X6_wearTooMuch : okC mX6_wearTooMuch 1 := ⟨⟨by decide +kernel, by decide +kernel⟩, w3_102, w1_3, by decide +kernel, by decide +kernel, by decide +kernel⟩
theorem im_X6_wearTooMuch : Cond.instanceMethod mX6_wearTooMuch.1 ∈ TB := w3_101
theorem se_X6_wearTooMuch : Cond.selects mX6_wearTooMuch.1.cls mX6_wearTooMuch.1 mX6_wearTooMuch.1 ∈ TB := tb_p 43 rfl rfl
theorem oc_X6_wearTooMuchOf : okC mX6_wearTooMuchOf 1 := ⟨⟨by decide +kernel, by decide +kernel⟩, w3_111, w1_3, by decide +kernel, by decide +kernel, by decide +kernel⟩
theorem im_X6_wearTooMuchOf : Cond.instanceMethod mX6_wearTooMuchOf.1 ∈ TB := w3_110
theorem se_X6_wearTooMuchOf : Cond.selects mX6_wearTooMuchOf.1.cls mX6_wearTooMuchOf.1 mX6_wearTooMuchOf.1 ∈ TB := tb_p 44 rfl rfl
theorem oc_X6_copyFrom : okC mX6_copyFrom 1 := ⟨⟨by decide +kernel, by decide +kernel⟩, w2_173, w1_3, by decide +kernel, by decide +kernel, by decide +kernel⟩
theorem im_X6_copyFrom : Cond.instanceMethod mX6_copyFrom.1 ∈ TB := w2_172
theorem se_X6_copyFrom : Cond.selects mX6_copyFrom.1.cls mX6_copyFrom.1 mX6_copyFrom.1 ∈ TB := tb_p 27 rfl rfl
theorem oc_X6_takeBack : okC mX6_takeBack 1 := ⟨⟨by decide +kernel, by decide +kernel⟩, w2_197, w1_3, by decide +kernel, by decide +kernel, by decide +kernel⟩
theorem im_X6_takeBack : Cond.instanceMethod mX6_takeBack.1 ∈ TB := w2_196
theorem se_X6_takeBack : Cond.selects mX6_takeBack.1.cls mX6_takeBack.1 mX6_takeBack.1 ∈ TB := tb_p 31 rfl rfl
theorem oc_X6_copyCells : okC mX6_copyCells 3 := ⟨⟨by decide +kernel, by decide +kernel⟩, w2_177, w1_3, by decide +kernel, by decide +kernel, by decide +kernel⟩
theorem im_X6_copyCells : Cond.instanceMethod mX6_copyCells.1 ∈ TB := w2_176
theorem se_X6_copyCells : Cond.selects mX6_copyCells.1.cls mX6_copyCells.1 mX6_copyCells.1 ∈ TB := tb_p 28 rfl rfl
theorem oc_X7_append : okC mX7_append 1 := ⟨⟨by decide +kernel, by decide +kernel⟩, w1_220, w1_2, by decide +kernel, by decide +kernel, by decide +kernel⟩
theorem im_X7_append : Cond.instanceMethod mX7_append.1 ∈ TB := w1_219
theorem se_X7_append : Cond.selects mX7_append.1.cls mX7_append.1 mX7_append.1 ∈ TB := tb_p 0 rfl rfl
theorem oc_X7_byteAt : okC mX7_byteAt 1 := ⟨⟨by decide +kernel, by decide +kernel⟩, w1_236, w1_2, by decide +kernel, by decide +kernel, by decide +kernel⟩
theorem im_X7_byteAt : Cond.instanceMethod mX7_byteAt.1 ∈ TB := w1_235
theorem se_X7_byteAt : Cond.selects mX7_byteAt.1.cls mX7_byteAt.1 mX7_byteAt.1 ∈ TB := tb_p 2 rfl rfl
theorem oc_X7_figureAt : okC mX7_figureAt 1 := ⟨⟨by decide +kernel, by decide +kernel⟩, w2_4, w1_2, by decide +kernel, by decide +kernel, by decide +kernel⟩
theorem im_X7_figureAt : Cond.instanceMethod mX7_figureAt.1 ∈ TB := w2_3
theorem se_X7_figureAt : Cond.selects mX7_figureAt.1.cls mX7_figureAt.1 mX7_figureAt.1 ∈ TB := tb_p 4 rfl rfl
theorem oc_X7_tellsTooth : okC mX7_tellsTooth 1 := ⟨⟨by decide +kernel, by decide +kernel⟩, w2_7, w1_2, by decide +kernel, by decide +kernel, by decide +kernel⟩
theorem sm_X7_tellsTooth : Cond.static mX7_tellsTooth.1 ∈ TB := w2_6
theorem oc_X7_partLength : okC mX7_partLength 1 := ⟨⟨by decide +kernel, by decide +kernel⟩, w2_13, w1_2, by decide +kernel, by decide +kernel, by decide +kernel⟩
theorem sm_X7_partLength : Cond.static mX7_partLength.1 ∈ TB := w2_12
theorem oc_X7_faultPlace : okC mX7_faultPlace 0 := ⟨⟨by decide +kernel, by decide +kernel⟩, w1_232, w1_2, by decide +kernel, by decide +kernel, by decide +kernel⟩
theorem im_X7_faultPlace : Cond.instanceMethod mX7_faultPlace.1 ∈ TB := w1_231
theorem se_X7_faultPlace : Cond.selects mX7_faultPlace.1.cls mX7_faultPlace.1 mX7_faultPlace.1 ∈ TB := tb_p 1 rfl rfl
theorem oc_X7_mayBegin : okC mX7_mayBegin 3 := ⟨⟨by decide +kernel, by decide +kernel⟩, w2_10, w1_2, by decide +kernel, by decide +kernel, by decide +kernel⟩
theorem sm_X7_mayBegin : Cond.static mX7_mayBegin.1 ∈ TB := w2_9
theorem oc_X7_mayFollow : okC mX7_mayFollow 3 := ⟨⟨by decide +kernel, by decide +kernel⟩, w2_0, w1_2, by decide +kernel, by decide +kernel, by decide +kernel⟩
theorem im_X7_mayFollow : Cond.instanceMethod mX7_mayFollow.1 ∈ TB := w1_239
theorem se_X7_mayFollow : Cond.selects mX7_mayFollow.1.cls mX7_mayFollow.1 mX7_mayFollow.1 ∈ TB := tb_p 3 rfl rfl
theorem oc_X8_write : okC mX8_write 2 := ⟨⟨by decide +kernel, by decide +kernel⟩, w1_216, w1_1, by decide +kernel, by decide +kernel, by decide +kernel⟩
theorem im_X8_write : Cond.instanceMethod mX8_write.1 ∈ TB := w1_214
theorem se_X8_write : Cond.selects mX8_write.1.cls mX8_write.1 mX8_write.1 ∈ TB := w1_215
theorem oc_X8_wipe : okC mX8_wipe 0 := ⟨⟨by decide +kernel, by decide +kernel⟩, w1_224, w1_1, by decide +kernel, by decide +kernel, by decide +kernel⟩
theorem im_X8_wipe : Cond.instanceMethod mX8_wipe.1 ∈ TB := w1_222
theorem se_X8_wipe : Cond.selects mX8_wipe.1.cls mX8_wipe.1 mX8_wipe.1 ∈ TB := w1_223
theorem oc_X8_fault : okC mX8_fault 0 := ⟨⟨by decide +kernel, by decide +kernel⟩, w1_228, w1_1, by decide +kernel, by decide +kernel, by decide +kernel⟩
theorem im_X8_fault : Cond.instanceMethod mX8_fault.1 ∈ TB := w1_226
theorem se_X8_fault : Cond.selects mX8_fault.1.cls mX8_fault.1 mX8_fault.1 ∈ TB := w1_227
theorem oc_X8_market : okC mX8_market 0 := ⟨⟨by decide +kernel, by decide +kernel⟩, w2_17, w1_1, by decide +kernel, by decide +kernel, by decide +kernel⟩
theorem im_X8_market : Cond.instanceMethod mX8_market.1 ∈ TB := w2_15
theorem se_X8_market : Cond.selects mX8_market.1.cls mX8_market.1 mX8_market.1 ∈ TB := w2_16
theorem oc_X8_about : okC mX8_about 1 := ⟨⟨by decide +kernel, by decide +kernel⟩, w2_53, w1_1, by decide +kernel, by decide +kernel, by decide +kernel⟩
theorem im_X8_about : Cond.instanceMethod mX8_about.1 ∈ TB := w2_51
theorem se_X8_about : Cond.selects mX8_about.1.cls mX8_about.1 mX8_about.1 ∈ TB := w2_52
theorem oc_X8_tooth : okC mX8_tooth 2 := ⟨⟨by decide +kernel, by decide +kernel⟩, w2_61, w1_1, by decide +kernel, by decide +kernel, by decide +kernel⟩
theorem im_X8_tooth : Cond.instanceMethod mX8_tooth.1 ∈ TB := w2_59
theorem se_X8_tooth : Cond.selects mX8_tooth.1.cls mX8_tooth.1 mX8_tooth.1 ∈ TB := w2_60
theorem oc_X8_good : okC mX8_good 2 := ⟨⟨by decide +kernel, by decide +kernel⟩, w2_78, w1_1, by decide +kernel, by decide +kernel, by decide +kernel⟩
theorem im_X8_good : Cond.instanceMethod mX8_good.1 ∈ TB := w2_76
theorem se_X8_good : Cond.selects mX8_good.1.cls mX8_good.1 mX8_good.1 ∈ TB := w2_77
theorem oc_X8_purse : okC mX8_purse 1 := ⟨⟨by decide +kernel, by decide +kernel⟩, w2_94, w1_1, by decide +kernel, by decide +kernel, by decide +kernel⟩
theorem im_X8_purse : Cond.instanceMethod mX8_purse.1 ∈ TB := w2_92
theorem se_X8_purse : Cond.selects mX8_purse.1.cls mX8_purse.1 mX8_purse.1 ∈ TB := w2_93
theorem oc_X8_handle : okC mX8_handle 1 := ⟨⟨by decide +kernel, by decide +kernel⟩, w2_109, w1_1, by decide +kernel, by decide +kernel, by decide +kernel⟩
theorem im_X8_handle : Cond.instanceMethod mX8_handle.1 ∈ TB := w2_107
theorem se_X8_handle : Cond.selects mX8_handle.1.cls mX8_handle.1 mX8_handle.1 ∈ TB := w2_108
theorem oc_X8_bite : okC mX8_bite 1 := ⟨⟨by decide +kernel, by decide +kernel⟩, w2_120, w1_1, by decide +kernel, by decide +kernel, by decide +kernel⟩
theorem im_X8_bite : Cond.instanceMethod mX8_bite.1 ∈ TB := w2_118
theorem se_X8_bite : Cond.selects mX8_bite.1.cls mX8_bite.1 mX8_bite.1 ∈ TB := w2_119
theorem oc_X8_fewest : okC mX8_fewest 3 := ⟨⟨by decide +kernel, by decide +kernel⟩, w2_124, w1_1, by decide +kernel, by decide +kernel, by decide +kernel⟩
theorem im_X8_fewest : Cond.instanceMethod mX8_fewest.1 ∈ TB := w2_122
theorem se_X8_fewest : Cond.selects mX8_fewest.1.cls mX8_fewest.1 mX8_fewest.1 ∈ TB := w2_123
theorem oc_X8_paid : okC mX8_paid 4 := ⟨⟨by decide +kernel, by decide +kernel⟩, w2_161, w1_1, by decide +kernel, by decide +kernel, by decide +kernel⟩
theorem im_X8_paid : Cond.instanceMethod mX8_paid.1 ∈ TB := w2_159
theorem se_X8_paid : Cond.selects mX8_paid.1.cls mX8_paid.1 mX8_paid.1 ∈ TB := w2_160
theorem oc_X8_pay : okC mX8_pay 3 := ⟨⟨by decide +kernel, by decide +kernel⟩, w2_165, w1_1, by decide +kernel, by decide +kernel, by decide +kernel⟩
theorem im_X8_pay : Cond.instanceMethod mX8_pay.1 ∈ TB := w2_163
theorem se_X8_pay : Cond.selects mX8_pay.1.cls mX8_pay.1 mX8_pay.1 ∈ TB := w2_164
theorem oc_X8_undo : okC mX8_undo 0 := ⟨⟨by decide +kernel, by decide +kernel⟩, w2_189, w1_1, by decide +kernel, by decide +kernel, by decide +kernel⟩
theorem im_X8_undo : Cond.instanceMethod mX8_undo.1 ∈ TB := w2_187
theorem se_X8_undo : Cond.selects mX8_undo.1.cls mX8_undo.1 mX8_undo.1 ∈ TB := w2_188
theorem oc_X8_tooMuch : okC mX8_tooMuch 3 := ⟨⟨by decide +kernel, by decide +kernel⟩, w2_201, w1_1, by decide +kernel, by decide +kernel, by decide +kernel⟩
theorem im_X8_tooMuch : Cond.instanceMethod mX8_tooMuch.1 ∈ TB := w2_199
theorem se_X8_tooMuch : Cond.selects mX8_tooMuch.1.cls mX8_tooMuch.1 mX8_tooMuch.1 ∈ TB := w2_200
theorem oc_X8_sums : okC mX8_sums 3 := ⟨⟨by decide +kernel, by decide +kernel⟩, w2_209, w1_1, by decide +kernel, by decide +kernel, by decide +kernel⟩
theorem im_X8_sums : Cond.instanceMethod mX8_sums.1 ∈ TB := w2_207
theorem se_X8_sums : Cond.selects mX8_sums.1.cls mX8_sums.1 mX8_sums.1 ∈ TB := w2_208
theorem oc_X8_spent : okC mX8_spent 2 := ⟨⟨by decide +kernel, by decide +kernel⟩, w2_214, w1_1, by decide +kernel, by decide +kernel, by decide +kernel⟩
theorem im_X8_spent : Cond.instanceMethod mX8_spent.1 ∈ TB := w2_212
theorem se_X8_spent : Cond.selects mX8_spent.1.cls mX8_spent.1 mX8_spent.1 ∈ TB := w2_213
theorem oc_X8_caught : okC mX8_caught 2 := ⟨⟨by decide +kernel, by decide +kernel⟩, w2_228, w1_1, by decide +kernel, by decide +kernel, by decide +kernel⟩
theorem im_X8_caught : Cond.instanceMethod mX8_caught.1 ∈ TB := w2_226
theorem se_X8_caught : Cond.selects mX8_caught.1.cls mX8_caught.1 mX8_caught.1 ∈ TB := w2_227
theorem oc_X8_washed : okC mX8_washed 2 := ⟨⟨by decide +kernel, by decide +kernel⟩, w3_3, w1_1, by decide +kernel, by decide +kernel, by decide +kernel⟩
theorem im_X8_washed : Cond.instanceMethod mX8_washed.1 ∈ TB := w3_1
theorem se_X8_washed : Cond.selects mX8_washed.1.cls mX8_washed.1 mX8_washed.1 ∈ TB := w3_2
theorem oc_X8_life : okC mX8_life 2 := ⟨⟨by decide +kernel, by decide +kernel⟩, w3_7, w1_1, by decide +kernel, by decide +kernel, by decide +kernel⟩
theorem im_X8_life : Cond.instanceMethod mX8_life.1 ∈ TB := w3_5
theorem se_X8_life : Cond.selects mX8_life.1.cls mX8_life.1 mX8_life.1 ∈ TB := w3_6
theorem oc_X8_trace : okC mX8_trace 2 := ⟨⟨by decide +kernel, by decide +kernel⟩, w3_11, w1_1, by decide +kernel, by decide +kernel, by decide +kernel⟩
theorem im_X8_trace : Cond.instanceMethod mX8_trace.1 ∈ TB := w3_9
theorem se_X8_trace : Cond.selects mX8_trace.1.cls mX8_trace.1 mX8_trace.1 ∈ TB := w3_10
theorem oc_X8_inflated : okC mX8_inflated 2 := ⟨⟨by decide +kernel, by decide +kernel⟩, w3_19, w1_1, by decide +kernel, by decide +kernel, by decide +kernel⟩
theorem im_X8_inflated : Cond.instanceMethod mX8_inflated.1 ∈ TB := w3_17
theorem se_X8_inflated : Cond.selects mX8_inflated.1.cls mX8_inflated.1 mX8_inflated.1 ∈ TB := w3_18
theorem oc_X8_doubt : okC mX8_doubt 6 := ⟨⟨by decide +kernel, by decide +kernel⟩, w3_23, w1_1, by decide +kernel, by decide +kernel, by decide +kernel⟩
theorem im_X8_doubt : Cond.instanceMethod mX8_doubt.1 ∈ TB := w3_21
theorem se_X8_doubt : Cond.selects mX8_doubt.1.cls mX8_doubt.1 mX8_doubt.1 ∈ TB := w3_22
theorem oc_X8_among : okC mX8_among 4 := ⟨⟨by decide +kernel, by decide +kernel⟩, w3_41, w1_1, by decide +kernel, by decide +kernel, by decide +kernel⟩
theorem im_X8_among : Cond.instanceMethod mX8_among.1 ∈ TB := w3_39
theorem se_X8_among : Cond.selects mX8_among.1.cls mX8_among.1 mX8_among.1 ∈ TB := w3_40
theorem oc_X8_rate : okC mX8_rate 4 := ⟨⟨by decide +kernel, by decide +kernel⟩, w3_46, w1_1, by decide +kernel, by decide +kernel, by decide +kernel⟩
theorem im_X8_rate : Cond.instanceMethod mX8_rate.1 ∈ TB := w3_44
theorem se_X8_rate : Cond.selects mX8_rate.1.cls mX8_rate.1 mX8_rate.1 ∈ TB := w3_45
theorem oc_X8_ring : okC mX8_ring 1 := ⟨⟨by decide +kernel, by decide +kernel⟩, w3_65, w1_1, by decide +kernel, by decide +kernel, by decide +kernel⟩
theorem im_X8_ring : Cond.instanceMethod mX8_ring.1 ∈ TB := w3_63
theorem se_X8_ring : Cond.selects mX8_ring.1.cls mX8_ring.1 mX8_ring.1 ∈ TB := w3_64
theorem oc_X8_ringAt : okC mX8_ringAt 1 := ⟨⟨by decide +kernel, by decide +kernel⟩, w3_89, w1_1, by decide +kernel, by decide +kernel, by decide +kernel⟩
theorem im_X8_ringAt : Cond.instanceMethod mX8_ringAt.1 ∈ TB := w3_87
theorem se_X8_ringAt : Cond.selects mX8_ringAt.1.cls mX8_ringAt.1 mX8_ringAt.1 ∈ TB := w3_88
theorem oc_X8_should : okC mX8_should 2 := ⟨⟨by decide +kernel, by decide +kernel⟩, w3_94, w1_1, by decide +kernel, by decide +kernel, by decide +kernel⟩
theorem im_X8_should : Cond.instanceMethod mX8_should.1 ∈ TB := w3_92
theorem se_X8_should : Cond.selects mX8_should.1.cls mX8_should.1 mX8_should.1 ∈ TB := w3_93
theorem oc_X8_stolen : okC mX8_stolen 0 := ⟨⟨by decide +kernel, by decide +kernel⟩, w3_98, w1_1, by decide +kernel, by decide +kernel, by decide +kernel⟩
theorem im_X8_stolen : Cond.instanceMethod mX8_stolen.1 ∈ TB := w3_96
theorem se_X8_stolen : Cond.selects mX8_stolen.1.cls mX8_stolen.1 mX8_stolen.1 ∈ TB := w3_97
theorem oc_X8_thief : okC mX8_thief 0 := ⟨⟨by decide +kernel, by decide +kernel⟩, w3_107, w1_1, by decide +kernel, by decide +kernel, by decide +kernel⟩
theorem im_X8_thief : Cond.instanceMethod mX8_thief.1 ∈ TB := w3_105
theorem se_X8_thief : Cond.selects mX8_thief.1.cls mX8_thief.1 mX8_thief.1 ∈ TB := w3_106
theorem oc_X8_keep : okC mX8_keep 1 := ⟨⟨by decide +kernel, by decide +kernel⟩, w3_116, w1_1, by decide +kernel, by decide +kernel, by decide +kernel⟩
theorem im_X8_keep : Cond.instanceMethod mX8_keep.1 ∈ TB := w3_114
theorem se_X8_keep : Cond.selects mX8_keep.1.cls mX8_keep.1 mX8_keep.1 ∈ TB := w3_115
theorem oc_X8_again : okC mX8_again 1 := ⟨⟨by decide +kernel, by decide +kernel⟩, w3_139, w1_1, by decide +kernel, by decide +kernel, by decide +kernel⟩
theorem im_X8_again : Cond.instanceMethod mX8_again.1 ∈ TB := w3_137
theorem se_X8_again : Cond.selects mX8_again.1.cls mX8_again.1 mX8_again.1 ∈ TB := w3_138
theorem oc_X8_isTooth : okC mX8_isTooth 1 := ⟨⟨by decide +kernel, by decide +kernel⟩, w2_65, w1_1, by decide +kernel, by decide +kernel, by decide +kernel⟩
theorem im_X8_isTooth : Cond.instanceMethod mX8_isTooth.1 ∈ TB := w2_64
theorem se_X8_isTooth : Cond.selects mX8_isTooth.1.cls mX8_isTooth.1 mX8_isTooth.1 ∈ TB := tb_p 12 rfl rfl
theorem oc_X8_isGood : okC mX8_isGood 1 := ⟨⟨by decide +kernel, by decide +kernel⟩, w2_82, w1_1, by decide +kernel, by decide +kernel, by decide +kernel⟩
theorem im_X8_isGood : Cond.instanceMethod mX8_isGood.1 ∈ TB := w2_81
theorem se_X8_isGood : Cond.selects mX8_isGood.1.cls mX8_isGood.1 mX8_isGood.1 ∈ TB := tb_p 15 rfl rfl
theorem oc_X8_isSlot : okC mX8_isSlot 1 := ⟨⟨by decide +kernel, by decide +kernel⟩, w3_120, w1_1, by decide +kernel, by decide +kernel, by decide +kernel⟩
theorem im_X8_isSlot : Cond.instanceMethod mX8_isSlot.1 ∈ TB := w3_119
theorem se_X8_isSlot : Cond.selects mX8_isSlot.1.cls mX8_isSlot.1 mX8_isSlot.1 ∈ TB := tb_p 45 rfl rfl
theorem oc_X8_isPerson : okC mX8_isPerson 1 := ⟨⟨by decide +kernel, by decide +kernel⟩, w2_97, w1_1, by decide +kernel, by decide +kernel, by decide +kernel⟩
theorem sm_X8_isPerson : Cond.static mX8_isPerson.1 ∈ TB := w2_96
theorem oc_X8_isMoney : okC mX8_isMoney 1 := ⟨⟨by decide +kernel, by decide +kernel⟩, w3_49, w1_1, by decide +kernel, by decide +kernel, by decide +kernel⟩
theorem sm_X8_isMoney : Cond.static mX8_isMoney.1 ∈ TB := w3_48
theorem oc_X8_isPrice : okC mX8_isPrice 1 := ⟨⟨by decide +kernel, by decide +kernel⟩, w2_130, w1_1, by decide +kernel, by decide +kernel, by decide +kernel⟩
theorem sm_X8_isPrice : Cond.static mX8_isPrice.1 ∈ TB := w2_129
theorem oc_X8_isTenths : okC mX8_isTenths 1 := ⟨⟨by decide +kernel, by decide +kernel⟩, w3_26, w1_1, by decide +kernel, by decide +kernel, by decide +kernel⟩
theorem sm_X8_isTenths : Cond.static mX8_isTenths.1 ∈ TB := w3_25
theorem oc_X8_paymentRefusal : okC mX8_paymentRefusal 3 := ⟨⟨by decide +kernel, by decide +kernel⟩, w2_127, w1_1, by decide +kernel, by decide +kernel, by decide +kernel⟩
theorem sm_X8_paymentRefusal : Cond.static mX8_paymentRefusal.1 ∈ TB := w2_126
theorem oc_X8_readPart : okC mX8_readPart 1 := ⟨⟨by decide +kernel, by decide +kernel⟩, w2_22, w1_1, by decide +kernel, by decide +kernel, by decide +kernel⟩
theorem im_X8_readPart : Cond.instanceMethod mX8_readPart.1 ∈ TB := w2_21
theorem se_X8_readPart : Cond.selects mX8_readPart.1.cls mX8_readPart.1 mX8_readPart.1 ∈ TB := tb_p 5 rfl rfl
theorem oc_X8_worthWorn : okC mX8_worthWorn 2 := ⟨⟨by decide +kernel, by decide +kernel⟩, w2_74, w1_1, by decide +kernel, by decide +kernel, by decide +kernel⟩
theorem im_X8_worthWorn : Cond.instanceMethod mX8_worthWorn.1 ∈ TB := w2_73
theorem se_X8_worthWorn : Cond.selects mX8_worthWorn.1.cls mX8_worthWorn.1 mX8_worthWorn.1 ∈ TB := tb_p 14 rfl rfl
theorem oc_X8_worthOf : okC mX8_worthOf 1 := ⟨⟨by decide +kernel, by decide +kernel⟩, w2_70, w1_1, by decide +kernel, by decide +kernel, by decide +kernel⟩
theorem im_X8_worthOf : Cond.instanceMethod mX8_worthOf.1 ∈ TB := w2_69
theorem se_X8_worthOf : Cond.selects mX8_worthOf.1.cls mX8_worthOf.1 mX8_worthOf.1 ∈ TB := tb_p 13 rfl rfl
theorem oc_X8_worthOfSet : okC mX8_worthOfSet 1 := ⟨⟨by decide +kernel, by decide +kernel⟩, w2_105, w1_1, by decide +kernel, by decide +kernel, by decide +kernel⟩
theorem im_X8_worthOfSet : Cond.instanceMethod mX8_worthOfSet.1 ∈ TB := w2_104
theorem se_X8_worthOfSet : Cond.selects mX8_worthOfSet.1.cls mX8_worthOfSet.1 mX8_worthOfSet.1 ∈ TB := tb_p 19 rfl rfl
theorem oc_X8_setsOfTeeth : okC mX8_setsOfTeeth 0 := ⟨⟨by decide +kernel, by decide +kernel⟩, w2_146, w1_1, by decide +kernel, by decide +kernel, by decide +kernel⟩
theorem im_X8_setsOfTeeth : Cond.instanceMethod mX8_setsOfTeeth.1 ∈ TB := w2_145
theorem se_X8_setsOfTeeth : Cond.selects mX8_setsOfTeeth.1.cls mX8_setsOfTeeth.1 mX8_setsOfTeeth.1 ∈ TB := tb_p 24 rfl rfl
theorem oc_X8_weighSets : okC mX8_weighSets 1 := ⟨⟨by decide +kernel, by decide +kernel⟩, w2_138, w1_1, by decide +kernel, by decide +kernel, by decide +kernel⟩
theorem im_X8_weighSets : Cond.instanceMethod mX8_weighSets.1 ∈ TB := w2_137
theorem se_X8_weighSets : Cond.selects mX8_weighSets.1.cls mX8_weighSets.1 mX8_weighSets.1 ∈ TB := tb_p 22 rfl rfl
theorem oc_X8_seekFewest : okC mX8_seekFewest 3 := ⟨⟨by decide +kernel, by decide +kernel⟩, w2_134, w1_1, by decide +kernel, by decide +kernel, by decide +kernel⟩
theorem im_X8_seekFewest : Cond.instanceMethod mX8_seekFewest.1 ∈ TB := w2_133
theorem se_X8_seekFewest : Cond.selects mX8_seekFewest.1.cls mX8_seekFewest.1 mX8_seekFewest.1 ∈ TB := tb_p 21 rfl rfl
theorem oc_X8_seekTooMuch : okC mX8_seekTooMuch 2 := ⟨⟨by decide +kernel, by decide +kernel⟩, w2_205, w1_1, by decide +kernel, by decide +kernel, by decide +kernel⟩
theorem im_X8_seekTooMuch : Cond.instanceMethod mX8_seekTooMuch.1 ∈ TB := w2_204
theorem se_X8_seekTooMuch : Cond.selects mX8_seekTooMuch.1.cls mX8_seekTooMuch.1 mX8_seekTooMuch.1 ∈ TB := tb_p 32 rfl rfl
theorem oc_X8_handOver : okC mX8_handOver 2 := ⟨⟨by decide +kernel, by decide +kernel⟩, w2_184, w1_1, by decide +kernel, by decide +kernel, by decide +kernel⟩
theorem im_X8_handOver : Cond.instanceMethod mX8_handOver.1 ∈ TB := w2_183
theorem se_X8_handOver : Cond.selects mX8_handOver.1.cls mX8_handOver.1 mX8_handOver.1 ∈ TB := tb_p 29 rfl rfl
theorem oc_X8_drawFrom : okC mX8_drawFrom 1 := ⟨⟨by decide +kernel, by decide +kernel⟩, w2_231, w1_1, by decide +kernel, by decide +kernel, by decide +kernel⟩
theorem sm_X8_drawFrom : Cond.static mX8_drawFrom.1 ∈ TB := w2_230
theorem oc_X8_addDrawn : okC mX8_addDrawn 2 := ⟨⟨by decide +kernel, by decide +kernel⟩, w2_237, w1_1, by decide +kernel, by decide +kernel, by decide +kernel⟩
theorem im_X8_addDrawn : Cond.instanceMethod mX8_addDrawn.1 ∈ TB := w2_236
theorem se_X8_addDrawn : Cond.selects mX8_addDrawn.1.cls mX8_addDrawn.1 mX8_addDrawn.1 ∈ TB := tb_p 35 rfl rfl
theorem oc_X8_power : okC mX8_power 2 := ⟨⟨by decide +kernel, by decide +kernel⟩, w3_30, w1_1, by decide +kernel, by decide +kernel, by decide +kernel⟩
theorem sm_X8_power : Cond.static mX8_power.1 ∈ TB := w3_29
theorem oc_X8_ofFraction : okC mX8_ofFraction 3 := ⟨⟨by decide +kernel, by decide +kernel⟩, w3_34, w1_1, by decide +kernel, by decide +kernel, by decide +kernel⟩
theorem sm_X8_ofFraction : Cond.static mX8_ofFraction.1 ∈ TB := w3_33
theorem oc_X8_commonDivisor : okC mX8_commonDivisor 2 := ⟨⟨by decide +kernel, by decide +kernel⟩, w3_37, w1_1, by decide +kernel, by decide +kernel, by decide +kernel⟩
theorem sm_X8_commonDivisor : Cond.static mX8_commonDivisor.1 ∈ TB := w3_36
theorem oc_X8_seekRing : okC mX8_seekRing 0 := ⟨⟨by decide +kernel, by decide +kernel⟩, w3_69, w1_1, by decide +kernel, by decide +kernel, by decide +kernel⟩
theorem im_X8_seekRing : Cond.instanceMethod mX8_seekRing.1 ∈ TB := w3_68
theorem se_X8_seekRing : Cond.selects mX8_seekRing.1.cls mX8_seekRing.1 mX8_seekRing.1 ∈ TB := tb_p 40 rfl rfl
theorem oc_X9_in : okC mX9_in 3 := ⟨⟨by decide +kernel, by decide +kernel⟩, w4_63, w1_11, by decide +kernel, by decide +kernel, by decide +kernel⟩
theorem sm_X9_in : Cond.static mX9_in.1 ∈ TB := w4_62
theorem oc_X9_has : okC mX9_has 2 := ⟨⟨by decide +kernel, by decide +kernel⟩, w4_150, w1_11, by decide +kernel, by decide +kernel, by decide +kernel⟩
theorem sm_X9_has : Cond.static mX9_has.1 ∈ TB := w4_149
theorem oc_X9_many : okC mX9_many 1 := ⟨⟨by decide +kernel, by decide +kernel⟩, w4_177, w1_11, by decide +kernel, by decide +kernel, by decide +kernel⟩
theorem sm_X9_many : Cond.static mX9_many.1 ∈ TB := w4_176
theorem oc_X9_noTooth : okC mX9_noTooth 1 := ⟨⟨by decide +kernel, by decide +kernel⟩, w4_119, w1_11, by decide +kernel, by decide +kernel, by decide +kernel⟩
theorem im_X9_noTooth : Cond.instanceMethod mX9_noTooth.1 ∈ TB := w4_118
theorem se_X9_noTooth : Cond.selects mX9_noTooth.1.cls mX9_noTooth.1 mX9_noTooth.1 ∈ TB := tb_p 58 rfl rfl
theorem oc_X9_noOne : okC mX9_noOne 1 := ⟨⟨by decide +kernel, by decide +kernel⟩, w4_138, w1_11, by decide +kernel, by decide +kernel, by decide +kernel⟩
theorem sm_X9_noOne : Cond.static mX9_noOne.1 ∈ TB := w4_137
theorem oc_X9_write : okC mX9_write 2 := ⟨⟨by decide +kernel, by decide +kernel⟩, w4_59, w1_11, by decide +kernel, by decide +kernel, by decide +kernel⟩
theorem im_X9_write : Cond.instanceMethod mX9_write.1 ∈ TB := w4_57
theorem se_X9_write : Cond.selects mX9_write.1.cls mX9_write.1 mX9_write.1 ∈ TB := w4_58
theorem oc_X9_wipe : okC mX9_wipe 0 := ⟨⟨by decide +kernel, by decide +kernel⟩, w4_67, w1_11, by decide +kernel, by decide +kernel, by decide +kernel⟩
theorem im_X9_wipe : Cond.instanceMethod mX9_wipe.1 ∈ TB := w4_65
theorem se_X9_wipe : Cond.selects mX9_wipe.1.cls mX9_wipe.1 mX9_wipe.1 ∈ TB := w4_66
theorem oc_X9_figure : okC mX9_figure 2 := ⟨⟨by decide +kernel, by decide +kernel⟩, w4_79, w1_11, by decide +kernel, by decide +kernel, by decide +kernel⟩
theorem im_X9_figure : Cond.instanceMethod mX9_figure.1 ∈ TB := w4_78
theorem se_X9_figure : Cond.selects mX9_figure.1.cls mX9_figure.1 mX9_figure.1 ∈ TB := tb_p 51 rfl rfl
theorem oc_X9_side : okC mX9_side 0 := ⟨⟨by decide +kernel, by decide +kernel⟩, w4_91, w1_11, by decide +kernel, by decide +kernel, by decide +kernel⟩
theorem im_X9_side : Cond.instanceMethod mX9_side.1 ∈ TB := w4_90
theorem se_X9_side : Cond.selects mX9_side.1.cls mX9_side.1 mX9_side.1 ∈ TB := tb_p 54 rfl rfl
theorem oc_X9_readTooth : okC mX9_readTooth 1 := ⟨⟨by decide +kernel, by decide +kernel⟩, w4_87, w1_11, by decide +kernel, by decide +kernel, by decide +kernel⟩
theorem im_X9_readTooth : Cond.instanceMethod mX9_readTooth.1 ∈ TB := w4_86
theorem se_X9_readTooth : Cond.selects mX9_readTooth.1.cls mX9_readTooth.1 mX9_readTooth.1 ∈ TB := tb_p 53 rfl rfl
theorem oc_X9_readGood : okC mX9_readGood 0 := ⟨⟨by decide +kernel, by decide +kernel⟩, w4_95, w1_11, by decide +kernel, by decide +kernel, by decide +kernel⟩
theorem im_X9_readGood : Cond.instanceMethod mX9_readGood.1 ∈ TB := w4_94
theorem se_X9_readGood : Cond.selects mX9_readGood.1.cls mX9_readGood.1 mX9_readGood.1 ∈ TB := tb_p 55 rfl rfl
theorem oc_X9_readPart : okC mX9_readPart 0 := ⟨⟨by decide +kernel, by decide +kernel⟩, w4_83, w1_11, by decide +kernel, by decide +kernel, by decide +kernel⟩
theorem im_X9_readPart : Cond.instanceMethod mX9_readPart.1 ∈ TB := w4_82
theorem se_X9_readPart : Cond.selects mX9_readPart.1.cls mX9_readPart.1 mX9_readPart.1 ∈ TB := tb_p 52 rfl rfl
theorem oc_X9_readMarket : okC mX9_readMarket 0 := ⟨⟨by decide +kernel, by decide +kernel⟩, w4_75, w1_11, by decide +kernel, by decide +kernel, by decide +kernel⟩
theorem im_X9_readMarket : Cond.instanceMethod mX9_readMarket.1 ∈ TB := w4_74
theorem se_X9_readMarket : Cond.selects mX9_readMarket.1.cls mX9_readMarket.1 mX9_readMarket.1 ∈ TB := tb_p 50 rfl rfl
theorem oc_X9_fault : okC mX9_fault 0 := ⟨⟨by decide +kernel, by decide +kernel⟩, w4_71, w1_11, by decide +kernel, by decide +kernel, by decide +kernel⟩
theorem im_X9_fault : Cond.instanceMethod mX9_fault.1 ∈ TB := w4_69
theorem se_X9_fault : Cond.selects mX9_fault.1.cls mX9_fault.1 mX9_fault.1 ∈ TB := w4_70
theorem oc_X9_come : okC mX9_come 1 := ⟨⟨by decide +kernel, by decide +kernel⟩, w4_103, w1_11, by decide +kernel, by decide +kernel, by decide +kernel⟩
theorem im_X9_come : Cond.instanceMethod mX9_come.1 ∈ TB := w4_102
theorem se_X9_come : Cond.selects mX9_come.1.cls mX9_come.1 mX9_come.1 ∈ TB := tb_p 56 rfl rfl
theorem oc_X9_market : okC mX9_market 0 := ⟨⟨by decide +kernel, by decide +kernel⟩, w4_99, w1_11, by decide +kernel, by decide +kernel, by decide +kernel⟩
theorem im_X9_market : Cond.instanceMethod mX9_market.1 ∈ TB := w4_97
theorem se_X9_market : Cond.selects mX9_market.1.cls mX9_market.1 mX9_market.1 ∈ TB := w4_98
theorem oc_X9_fakes : okC mX9_fakes 0 := ⟨⟨by decide +kernel, by decide +kernel⟩, w4_111, w1_11, by decide +kernel, by decide +kernel, by decide +kernel⟩
theorem im_X9_fakes : Cond.instanceMethod mX9_fakes.1 ∈ TB := w4_110
theorem se_X9_fakes : Cond.selects mX9_fakes.1.cls mX9_fakes.1 mX9_fakes.1 ∈ TB := tb_p 57 rfl rfl
theorem oc_X9_about : okC mX9_about 1 := ⟨⟨by decide +kernel, by decide +kernel⟩, w4_107, w1_11, by decide +kernel, by decide +kernel, by decide +kernel⟩
theorem im_X9_about : Cond.instanceMethod mX9_about.1 ∈ TB := w4_105
theorem se_X9_about : Cond.selects mX9_about.1.cls mX9_about.1 mX9_about.1 ∈ TB := w4_106
theorem oc_X9_worthBy : okC mX9_worthBy 2 := ⟨⟨by decide +kernel, by decide +kernel⟩, w4_127, w1_11, by decide +kernel, by decide +kernel, by decide +kernel⟩
theorem im_X9_worthBy : Cond.instanceMethod mX9_worthBy.1 ∈ TB := w4_126
theorem se_X9_worthBy : Cond.selects mX9_worthBy.1.cls mX9_worthBy.1 mX9_worthBy.1 ∈ TB := tb_p 60 rfl rfl
theorem oc_X9_worth : okC mX9_worth 1 := ⟨⟨by decide +kernel, by decide +kernel⟩, w4_123, w1_11, by decide +kernel, by decide +kernel, by decide +kernel⟩
theorem im_X9_worth : Cond.instanceMethod mX9_worth.1 ∈ TB := w4_122
theorem se_X9_worth : Cond.selects mX9_worth.1.cls mX9_worth.1 mX9_worth.1 ∈ TB := tb_p 59 rfl rfl
theorem oc_X9_tooth : okC mX9_tooth 2 := ⟨⟨by decide +kernel, by decide +kernel⟩, w4_115, w1_11, by decide +kernel, by decide +kernel, by decide +kernel⟩
theorem im_X9_tooth : Cond.instanceMethod mX9_tooth.1 ∈ TB := w4_113
theorem se_X9_tooth : Cond.selects mX9_tooth.1.cls mX9_tooth.1 mX9_tooth.1 ∈ TB := w4_114
theorem oc_X9_good : okC mX9_good 2 := ⟨⟨by decide +kernel, by decide +kernel⟩, w4_131, w1_11, by decide +kernel, by decide +kernel, by decide +kernel⟩
theorem im_X9_good : Cond.instanceMethod mX9_good.1 ∈ TB := w4_129
theorem se_X9_good : Cond.selects mX9_good.1.cls mX9_good.1 mX9_good.1 ∈ TB := w4_130
theorem oc_X9_setOf : okC mX9_setOf 1 := ⟨⟨by decide +kernel, by decide +kernel⟩, w4_143, w1_11, by decide +kernel, by decide +kernel, by decide +kernel⟩
theorem im_X9_setOf : Cond.instanceMethod mX9_setOf.1 ∈ TB := w4_142
theorem se_X9_setOf : Cond.selects mX9_setOf.1.cls mX9_setOf.1 mX9_setOf.1 ∈ TB := tb_p 61 rfl rfl
theorem oc_X9_worthOf : okC mX9_worthOf 1 := ⟨⟨by decide +kernel, by decide +kernel⟩, w4_147, w1_11, by decide +kernel, by decide +kernel, by decide +kernel⟩
theorem im_X9_worthOf : Cond.instanceMethod mX9_worthOf.1 ∈ TB := w4_146
theorem se_X9_worthOf : Cond.selects mX9_worthOf.1.cls mX9_worthOf.1 mX9_worthOf.1 ∈ TB := tb_p 62 rfl rfl
theorem oc_X9_purse : okC mX9_purse 1 := ⟨⟨by decide +kernel, by decide +kernel⟩, w4_135, w1_11, by decide +kernel, by decide +kernel, by decide +kernel⟩
theorem im_X9_purse : Cond.instanceMethod mX9_purse.1 ∈ TB := w4_133
theorem se_X9_purse : Cond.selects mX9_purse.1.cls mX9_purse.1 mX9_purse.1 ∈ TB := w4_134
theorem oc_X9_goHandle : okC mX9_goHandle 1 := ⟨⟨by decide +kernel, by decide +kernel⟩, w4_158, w1_11, by decide +kernel, by decide +kernel, by decide +kernel⟩
theorem im_X9_goHandle : Cond.instanceMethod mX9_goHandle.1 ∈ TB := w4_157
theorem se_X9_goHandle : Cond.selects mX9_goHandle.1.cls mX9_goHandle.1 mX9_goHandle.1 ∈ TB := tb_p 63 rfl rfl
theorem oc_X9_handle : okC mX9_handle 1 := ⟨⟨by decide +kernel, by decide +kernel⟩, w4_154, w1_11, by decide +kernel, by decide +kernel, by decide +kernel⟩
theorem im_X9_handle : Cond.instanceMethod mX9_handle.1 ∈ TB := w4_152
theorem se_X9_handle : Cond.selects mX9_handle.1.cls mX9_handle.1 mX9_handle.1 ∈ TB := w4_153
theorem oc_X9_bite : okC mX9_bite 1 := ⟨⟨by decide +kernel, by decide +kernel⟩, w4_162, w1_11, by decide +kernel, by decide +kernel, by decide +kernel⟩
theorem im_X9_bite : Cond.instanceMethod mX9_bite.1 ∈ TB := w4_160
theorem se_X9_bite : Cond.selects mX9_bite.1.cls mX9_bite.1 mX9_bite.1 ∈ TB := w4_161
theorem oc_X9_next : okC mX9_next 2 := ⟨⟨by decide +kernel, by decide +kernel⟩, w4_180, w1_11, by decide +kernel, by decide +kernel, by decide +kernel⟩
theorem sm_X9_next : Cond.static mX9_next.1 ∈ TB := w4_179
theorem oc_X9_findFewest : okC mX9_findFewest 3 := ⟨⟨by decide +kernel, by decide +kernel⟩, w4_174, w1_11, by decide +kernel, by decide +kernel, by decide +kernel⟩
theorem im_X9_findFewest : Cond.instanceMethod mX9_findFewest.1 ∈ TB := w4_173
theorem se_X9_findFewest : Cond.selects mX9_findFewest.1.cls mX9_findFewest.1 mX9_findFewest.1 ∈ TB := tb_p 64 rfl rfl
theorem oc_X9_noPay : okC mX9_noPay 3 := ⟨⟨by decide +kernel, by decide +kernel⟩, w4_169, w1_11, by decide +kernel, by decide +kernel, by decide +kernel⟩
theorem sm_X9_noPay : Cond.static mX9_noPay.1 ∈ TB := w4_168
theorem oc_X9_fewest : okC mX9_fewest 3 := ⟨⟨by decide +kernel, by decide +kernel⟩, w4_166, w1_11, by decide +kernel, by decide +kernel, by decide +kernel⟩
theorem im_X9_fewest : Cond.instanceMethod mX9_fewest.1 ∈ TB := w4_164
theorem se_X9_fewest : Cond.selects mX9_fewest.1.cls mX9_fewest.1 mX9_fewest.1 ∈ TB := w4_165
theorem oc_X9_paid : okC mX9_paid 4 := ⟨⟨by decide +kernel, by decide +kernel⟩, w4_184, w1_11, by decide +kernel, by decide +kernel, by decide +kernel⟩
theorem im_X9_paid : Cond.instanceMethod mX9_paid.1 ∈ TB := w4_182
theorem se_X9_paid : Cond.selects mX9_paid.1.cls mX9_paid.1 mX9_paid.1 ∈ TB := w4_183
theorem oc_X9_lay : okC mX9_lay 2 := ⟨⟨by decide +kernel, by decide +kernel⟩, w4_192, w1_11, by decide +kernel, by decide +kernel, by decide +kernel⟩
theorem im_X9_lay : Cond.instanceMethod mX9_lay.1 ∈ TB := w4_191
theorem se_X9_lay : Cond.selects mX9_lay.1.cls mX9_lay.1 mX9_lay.1 ∈ TB := tb_p 65 rfl rfl
theorem oc_X9_take : okC mX9_take 2 := ⟨⟨by decide +kernel, by decide +kernel⟩, w4_204, w1_11, by decide +kernel, by decide +kernel, by decide +kernel⟩
theorem im_X9_take : Cond.instanceMethod mX9_take.1 ∈ TB := w4_203
theorem se_X9_take : Cond.selects mX9_take.1.cls mX9_take.1 mX9_take.1 ∈ TB := tb_p 67 rfl rfl
theorem oc_X9_goOver : okC mX9_goOver 2 := ⟨⟨by decide +kernel, by decide +kernel⟩, w4_196, w1_11, by decide +kernel, by decide +kernel, by decide +kernel⟩
theorem im_X9_goOver : Cond.instanceMethod mX9_goOver.1 ∈ TB := w4_195
theorem se_X9_goOver : Cond.selects mX9_goOver.1.cls mX9_goOver.1 mX9_goOver.1 ∈ TB := tb_p 66 rfl rfl
theorem oc_X9_pay : okC mX9_pay 3 := ⟨⟨by decide +kernel, by decide +kernel⟩, w4_188, w1_11, by decide +kernel, by decide +kernel, by decide +kernel⟩
theorem im_X9_pay : Cond.instanceMethod mX9_pay.1 ∈ TB := w4_186
theorem se_X9_pay : Cond.selects mX9_pay.1.cls mX9_pay.1 mX9_pay.1 ∈ TB := w4_187
theorem oc_X9_undo : okC mX9_undo 0 := ⟨⟨by decide +kernel, by decide +kernel⟩, w4_200, w1_11, by decide +kernel, by decide +kernel, by decide +kernel⟩
theorem im_X9_undo : Cond.instanceMethod mX9_undo.1 ∈ TB := w4_198
theorem se_X9_undo : Cond.selects mX9_undo.1.cls mX9_undo.1 mX9_undo.1 ∈ TB := w4_199
theorem oc_X9_findMuch : okC mX9_findMuch 2 := ⟨⟨by decide +kernel, by decide +kernel⟩, w4_212, w1_11, by decide +kernel, by decide +kernel, by decide +kernel⟩
theorem im_X9_findMuch : Cond.instanceMethod mX9_findMuch.1 ∈ TB := w4_211
theorem se_X9_findMuch : Cond.selects mX9_findMuch.1.cls mX9_findMuch.1 mX9_findMuch.1 ∈ TB := tb_p 68 rfl rfl
theorem oc_X9_tooMuch : okC mX9_tooMuch 3 := ⟨⟨by decide +kernel, by decide +kernel⟩, w4_208, w1_11, by decide +kernel, by decide +kernel, by decide +kernel⟩
theorem im_X9_tooMuch : Cond.instanceMethod mX9_tooMuch.1 ∈ TB := w4_206
theorem se_X9_tooMuch : Cond.selects mX9_tooMuch.1.cls mX9_tooMuch.1 mX9_tooMuch.1 ∈ TB := w4_207
theorem oc_X9_sums : okC mX9_sums 3 := ⟨⟨by decide +kernel, by decide +kernel⟩, w4_216, w1_11, by decide +kernel, by decide +kernel, by decide +kernel⟩
theorem im_X9_sums : Cond.instanceMethod mX9_sums.1 ∈ TB := w4_214
theorem se_X9_sums : Cond.selects mX9_sums.1.cls mX9_sums.1 mX9_sums.1 ∈ TB := w4_215
theorem oc_X9_spent : okC mX9_spent 2 := ⟨⟨by decide +kernel, by decide +kernel⟩, w4_220, w1_11, by decide +kernel, by decide +kernel, by decide +kernel⟩
theorem im_X9_spent : Cond.instanceMethod mX9_spent.1 ∈ TB := w4_218
theorem se_X9_spent : Cond.selects mX9_spent.1.cls mX9_spent.1 mX9_spent.1 ∈ TB := w4_219
theorem oc_X9_add : okC mX9_add 2 := ⟨⟨by decide +kernel, by decide +kernel⟩, w4_233, w1_11, by decide +kernel, by decide +kernel, by decide +kernel⟩
theorem im_X9_add : Cond.instanceMethod mX9_add.1 ∈ TB := w4_232
theorem se_X9_add : Cond.selects mX9_add.1.cls mX9_add.1 mX9_add.1 ∈ TB := tb_p 69 rfl rfl
theorem oc_X9_draw : okC mX9_draw 1 := ⟨⟨by decide +kernel, by decide +kernel⟩, w4_227, w1_11, by decide +kernel, by decide +kernel, by decide +kernel⟩
theorem sm_X9_draw : Cond.static mX9_draw.1 ∈ TB := w4_226
theorem oc_X9_caught : okC mX9_caught 2 := ⟨⟨by decide +kernel, by decide +kernel⟩, w4_224, w1_11, by decide +kernel, by decide +kernel, by decide +kernel⟩
theorem im_X9_caught : Cond.instanceMethod mX9_caught.1 ∈ TB := w4_222
theorem se_X9_caught : Cond.selects mX9_caught.1.cls mX9_caught.1 mX9_caught.1 ∈ TB := w4_223
theorem oc_X9_washed : okC mX9_washed 2 := ⟨⟨by decide +kernel, by decide +kernel⟩, w4_239, w1_11, by decide +kernel, by decide +kernel, by decide +kernel⟩
theorem im_X9_washed : Cond.instanceMethod mX9_washed.1 ∈ TB := w4_237
theorem se_X9_washed : Cond.selects mX9_washed.1.cls mX9_washed.1 mX9_washed.1 ∈ TB := w4_238
theorem oc_X9_life : okC mX9_life 2 := ⟨⟨by decide +kernel, by decide +kernel⟩, w5_4, w1_11, by decide +kernel, by decide +kernel, by decide +kernel⟩
theorem im_X9_life : Cond.instanceMethod mX9_life.1 ∈ TB := w5_2
theorem se_X9_life : Cond.selects mX9_life.1.cls mX9_life.1 mX9_life.1 ∈ TB := w5_3
theorem oc_X9_trace : okC mX9_trace 2 := ⟨⟨by decide +kernel, by decide +kernel⟩, w5_8, w1_11, by decide +kernel, by decide +kernel, by decide +kernel⟩
theorem im_X9_trace : Cond.instanceMethod mX9_trace.1 ∈ TB := w5_6
theorem se_X9_trace : Cond.selects mX9_trace.1.cls mX9_trace.1 mX9_trace.1 ∈ TB := w5_7
theorem oc_X9_inflated : okC mX9_inflated 2 := ⟨⟨by decide +kernel, by decide +kernel⟩, w5_12, w1_11, by decide +kernel, by decide +kernel, by decide +kernel⟩
theorem im_X9_inflated : Cond.instanceMethod mX9_inflated.1 ∈ TB := w5_10
theorem se_X9_inflated : Cond.selects mX9_inflated.1.cls mX9_inflated.1 mX9_inflated.1 ∈ TB := w5_11
theorem oc_X9_told : okC mX9_told 3 := ⟨⟨by decide +kernel, by decide +kernel⟩, w5_29, w1_11, by decide +kernel, by decide +kernel, by decide +kernel⟩
theorem sm_X9_told : Cond.static mX9_told.1 ∈ TB := w5_28
theorem oc_X9_power : okC mX9_power 2 := ⟨⟨by decide +kernel, by decide +kernel⟩, w5_25, w1_11, by decide +kernel, by decide +kernel, by decide +kernel⟩
theorem sm_X9_power : Cond.static mX9_power.1 ∈ TB := w5_24
theorem oc_X9_noTenths : okC mX9_noTenths 1 := ⟨⟨by decide +kernel, by decide +kernel⟩, w5_20, w1_11, by decide +kernel, by decide +kernel, by decide +kernel⟩
theorem sm_X9_noTenths : Cond.static mX9_noTenths.1 ∈ TB := w5_19
theorem oc_X9_doubt : okC mX9_doubt 6 := ⟨⟨by decide +kernel, by decide +kernel⟩, w5_17, w1_11, by decide +kernel, by decide +kernel, by decide +kernel⟩
theorem im_X9_doubt : Cond.instanceMethod mX9_doubt.1 ∈ TB := w5_15
theorem se_X9_doubt : Cond.selects mX9_doubt.1.cls mX9_doubt.1 mX9_doubt.1 ∈ TB := w5_16
theorem oc_X9_among : okC mX9_among 4 := ⟨⟨by decide +kernel, by decide +kernel⟩, w5_33, w1_11, by decide +kernel, by decide +kernel, by decide +kernel⟩
theorem im_X9_among : Cond.instanceMethod mX9_among.1 ∈ TB := w5_31
theorem se_X9_among : Cond.selects mX9_among.1.cls mX9_among.1 mX9_among.1 ∈ TB := w5_32
theorem oc_X9_rate : okC mX9_rate 4 := ⟨⟨by decide +kernel, by decide +kernel⟩, w5_37, w1_11, by decide +kernel, by decide +kernel, by decide +kernel⟩
theorem im_X9_rate : Cond.instanceMethod mX9_rate.1 ∈ TB := w5_35
theorem se_X9_rate : Cond.selects mX9_rate.1.cls mX9_rate.1 mX9_rate.1 ∈ TB := w5_36
theorem oc_X9_layRing : okC mX9_layRing 2 := ⟨⟨by decide +kernel, by decide +kernel⟩, w5_50, w1_11, by decide +kernel, by decide +kernel, by decide +kernel⟩
theorem im_X9_layRing : Cond.instanceMethod mX9_layRing.1 ∈ TB := w5_49
theorem se_X9_layRing : Cond.selects mX9_layRing.1.cls mX9_layRing.1 mX9_layRing.1 ∈ TB := tb_p 71 rfl rfl
theorem oc_X9_findRing : okC mX9_findRing 0 := ⟨⟨by decide +kernel, by decide +kernel⟩, w5_46, w1_11, by decide +kernel, by decide +kernel, by decide +kernel⟩
theorem im_X9_findRing : Cond.instanceMethod mX9_findRing.1 ∈ TB := w5_45
theorem se_X9_findRing : Cond.selects mX9_findRing.1.cls mX9_findRing.1 mX9_findRing.1 ∈ TB := tb_p 70 rfl rfl
theorem oc_X9_ring : okC mX9_ring 1 := ⟨⟨by decide +kernel, by decide +kernel⟩, w5_42, w1_11, by decide +kernel, by decide +kernel, by decide +kernel⟩
theorem im_X9_ring : Cond.instanceMethod mX9_ring.1 ∈ TB := w5_40
theorem se_X9_ring : Cond.selects mX9_ring.1.cls mX9_ring.1 mX9_ring.1 ∈ TB := w5_41
theorem oc_X9_ringAt : okC mX9_ringAt 1 := ⟨⟨by decide +kernel, by decide +kernel⟩, w5_54, w1_11, by decide +kernel, by decide +kernel, by decide +kernel⟩
theorem im_X9_ringAt : Cond.instanceMethod mX9_ringAt.1 ∈ TB := w5_52
theorem se_X9_ringAt : Cond.selects mX9_ringAt.1.cls mX9_ringAt.1 mX9_ringAt.1 ∈ TB := w5_53
theorem oc_X9_should : okC mX9_should 2 := ⟨⟨by decide +kernel, by decide +kernel⟩, w5_58, w1_11, by decide +kernel, by decide +kernel, by decide +kernel⟩
theorem im_X9_should : Cond.instanceMethod mX9_should.1 ∈ TB := w5_56
theorem se_X9_should : Cond.selects mX9_should.1.cls mX9_should.1 mX9_should.1 ∈ TB := w5_57
theorem oc_X9_stolenSet : okC mX9_stolenSet 0 := ⟨⟨by decide +kernel, by decide +kernel⟩, w5_66, w1_11, by decide +kernel, by decide +kernel, by decide +kernel⟩
theorem im_X9_stolenSet : Cond.instanceMethod mX9_stolenSet.1 ∈ TB := w5_65
theorem se_X9_stolenSet : Cond.selects mX9_stolenSet.1.cls mX9_stolenSet.1 mX9_stolenSet.1 ∈ TB := tb_p 72 rfl rfl
theorem oc_X9_stolen : okC mX9_stolen 0 := ⟨⟨by decide +kernel, by decide +kernel⟩, w5_62, w1_11, by decide +kernel, by decide +kernel, by decide +kernel⟩
theorem im_X9_stolen : Cond.instanceMethod mX9_stolen.1 ∈ TB := w5_60
theorem se_X9_stolen : Cond.selects mX9_stolen.1.cls mX9_stolen.1 mX9_stolen.1 ∈ TB := w5_61
theorem oc_X9_thief : okC mX9_thief 0 := ⟨⟨by decide +kernel, by decide +kernel⟩, w5_70, w1_11, by decide +kernel, by decide +kernel, by decide +kernel⟩
theorem im_X9_thief : Cond.instanceMethod mX9_thief.1 ∈ TB := w5_68
theorem se_X9_thief : Cond.selects mX9_thief.1.cls mX9_thief.1 mX9_thief.1 ∈ TB := w5_69
theorem oc_X9_keep : okC mX9_keep 1 := ⟨⟨by decide +kernel, by decide +kernel⟩, w5_74, w1_11, by decide +kernel, by decide +kernel, by decide +kernel⟩
theorem im_X9_keep : Cond.instanceMethod mX9_keep.1 ∈ TB := w5_72
theorem se_X9_keep : Cond.selects mX9_keep.1.cls mX9_keep.1 mX9_keep.1 ∈ TB := w5_73
theorem oc_X9_again : okC mX9_again 1 := ⟨⟨by decide +kernel, by decide +kernel⟩, w5_78, w1_11, by decide +kernel, by decide +kernel, by decide +kernel⟩
theorem im_X9_again : Cond.instanceMethod mX9_again.1 ∈ TB := w5_76
theorem se_X9_again : Cond.selects mX9_again.1.cls mX9_again.1 mX9_again.1 ∈ TB := w5_77
theorem oc_J6_bitCount_0f7a4 : okC mJ6_bitCount_0f7a4 1 := ⟨⟨by decide +kernel, by decide +kernel⟩, w2_150, w1_13, by decide +kernel, by decide +kernel, by decide +kernel⟩
theorem sm_J6_bitCount_0f7a4 : Cond.static mJ6_bitCount_0f7a4.1 ∈ TB := w2_149
theorem oc_J7_fill_53178 : okC mJ7_fill_53178 2 := ⟨⟨by decide +kernel, by decide +kernel⟩, w1_95, w1_7, by decide +kernel, by decide +kernel, by decide +kernel⟩
theorem sm_J7_fill_53178 : Cond.static mJ7_fill_53178.1 ∈ TB := w1_94
theorem nat_mmax : Cond.static Lib.Math.max.name ∈ TB ∧ Cond.initialized "java/lang/Math" ∈ TB ∧ Cond.code Lib.Math.max.name Lib.Math.max.code 2 (some .int) ∈ TB := ⟨w2_48, w1_12, w2_49⟩
theorem nat_mmin : Cond.static Lib.Math.min.name ∈ TB ∧ Cond.initialized "java/lang/Math" ∈ TB ∧ Cond.code Lib.Math.min.name Lib.Math.min.code 2 (some .int) ∈ TB := ⟨w2_115, w1_12, w2_116⟩
theorem nat_acopy : Cond.native arraycopyName ∈ TB ∧ Cond.static arraycopyName ∈ TB ∧ Cond.initialized "java/lang/System" ∈ TB := ⟨w2_180, w2_179, w1_14⟩
theorem fl_X8_10 : FL RX8 10 "TeethForCoins" "text" "LTeethForCoins$Text;" := Or.inl w1_176
theorem fl_X8_19 : FL RX8 19 "TeethForCoins" "teeth" "LTeethForCoins$Teeth;" := Or.inl w1_177
theorem fl_X8_26 : FL RX8 26 "TeethForCoins" "goods" "LTeethForCoins$Goods;" := Or.inl w1_178
theorem fl_X8_33 : FL RX8 33 "TeethForCoins" "bargains" "LTeethForCoins$Bargains;" := Or.inl w1_179
theorem fl_X8_40 : FL RX8 40 "TeethForCoins" "rates" "LTeethForCoins$Rates;" := Or.inl w1_180
theorem fl_X8_46 : FL RX8 46 "TeethForCoins" "slots" "[LTeethForCoins$Slot;" := Or.inl w1_181
theorem fl_X8_50 : FL RX8 50 "TeethForCoins" "lossByWear" "I" := Or.inl w1_182
theorem fl_X8_54 : FL RX8 54 "TeethForCoins" "timesOfLeft" "I" := Or.inl w1_183
theorem fl_X8_60 : FL RX8 60 "TeethForCoins" "least" "LTeethForCoins$Least;" := Or.inl w1_184
theorem fl_X8_67 : FL RX8 67 "TeethForCoins" "best" "LTeethForCoins$Ring;" := Or.inl w1_185
theorem fl_X8_71 : FL RX8 71 "TeethForCoins" "balances" "[I" := Or.inl w1_186
theorem fl_X8_75 : FL RX8 75 "TeethForCoins" "payable" "[I" := Or.inl w1_187
theorem fl_X0_11 : FL RX0 11 "TeethForCoins$Bargains" "ahead" "[LTeethForCoins$Teeth;" := Or.inl w1_79
theorem fl_X0_17 : FL RX0 17 "TeethForCoins$Bargains" "made" "I" := Or.inl w1_80
theorem fl_X1_9 : FL RX1 9 "TeethForCoins$Goods" "prices" "[I" := Or.inl w1_59
theorem fl_X1_15 : FL RX1 15 "TeethForCoins$Goods" "uses" "[I" := Or.inl w1_60
theorem fl_X1_18 : FL RX1 18 "TeethForCoins$Goods" "count" "I" := Or.inl w1_61
theorem fl_X2_7 : FL RX2 7 "TeethForCoins$Least" "found" "Z" := Or.inl w1_111
theorem fl_X2_13 : FL RX2 13 "TeethForCoins$Least" "first" "I" := Or.inl w1_113
theorem fl_X2_17 : FL RX2 17 "TeethForCoins$Least" "second" "I" := Or.inl w1_115
theorem fl_X2_20 : FL RX2 20 "TeethForCoins$Least" "third" "I" := Or.inl w1_117
theorem fl_X3_9 : FL RX3 9 "TeethForCoins$Rates" "got" "[I" := Or.inl w1_96
theorem fl_X3_15 : FL RX3 15 "TeethForCoins$Rates" "given" "[I" := Or.inl w1_97
theorem fl_X4_7 : FL RX4 7 "TeethForCoins$Ring" "code" "I" := Or.inl w1_134
theorem fl_X4_13 : FL RX4 13 "TeethForCoins$Ring" "many" "I" := Or.inl w1_136
theorem fl_X4_16 : FL RX4 16 "TeethForCoins$Ring" "got" "J" := Or.inl w1_138
theorem fl_X4_20 : FL RX4 20 "TeethForCoins$Ring" "given" "J" := Or.inl w1_140
theorem fl_X5_10 : FL RX5 10 "TeethForCoins$Slot" "teeth" "LTeethForCoins$Teeth;" := Or.inl w1_162
theorem fl_X5_19 : FL RX5 19 "TeethForCoins$Slot" "bargains" "LTeethForCoins$Bargains;" := Or.inl w1_163
theorem fl_X5_26 : FL RX5 26 "TeethForCoins$Slot" "rates" "LTeethForCoins$Rates;" := Or.inl w1_164
theorem fl_X5_30 : FL RX5 30 "TeethForCoins$Slot" "full" "Z" := Or.inl w1_165
theorem fl_X6_11 : FL RX6 11 "TeethForCoins$Teeth" "cells" "[I" := Or.inl w1_44
theorem fl_X6_15 : FL RX6 15 "TeethForCoins$Teeth" "count" "I" := Or.inl w1_45
theorem fl_X7_9 : FL RX7 9 "TeethForCoins$Text" "bytes" "[B" := Or.inl w1_29
theorem fl_X7_15 : FL RX7 15 "TeethForCoins$Text" "length" "I" := Or.inl w1_30
theorem fl_X9_7 : FL RX9 7 "TeethForCoinsModel" "text" "[I" := Or.inl w3_151
theorem fl_X9_13 : FL RX9 13 "TeethForCoinsModel" "loss" "I" := Or.inl w3_154
theorem fl_X9_17 : FL RX9 17 "TeethForCoinsModel" "times" "I" := Or.inl w3_155
theorem fl_X9_20 : FL RX9 20 "TeethForCoinsModel" "size" "[I" := Or.inl w3_157
theorem fl_X9_23 : FL RX9 23 "TeethForCoinsModel" "left" "[Z" := Or.inl w3_158
theorem fl_X9_27 : FL RX9 27 "TeethForCoinsModel" "wear" "[I" := Or.inl w3_159
theorem fl_X9_30 : FL RX9 30 "TeethForCoinsModel" "owner" "[I" := Or.inl w3_160
theorem fl_X9_33 : FL RX9 33 "TeethForCoinsModel" "fake" "[Z" := Or.inl w3_161
theorem fl_X9_36 : FL RX9 36 "TeethForCoinsModel" "should" "[I" := Or.inl w3_162
theorem fl_X9_39 : FL RX9 39 "TeethForCoinsModel" "traces" "[I" := Or.inl w3_163
theorem fl_X9_42 : FL RX9 42 "TeethForCoinsModel" "trace" "[I" := Or.inl w3_164
theorem fl_X9_45 : FL RX9 45 "TeethForCoinsModel" "price" "[I" := Or.inl w3_166
theorem fl_X9_48 : FL RX9 48 "TeethForCoinsModel" "use" "[I" := Or.inl w3_167
theorem fl_X9_51 : FL RX9 51 "TeethForCoinsModel" "readSize" "[I" := Or.inl w3_172
theorem fl_X9_54 : FL RX9 54 "TeethForCoinsModel" "readLeft" "[Z" := Or.inl w3_173
theorem fl_X9_57 : FL RX9 57 "TeethForCoinsModel" "readWear" "[I" := Or.inl w3_174
theorem fl_X9_60 : FL RX9 60 "TeethForCoinsModel" "readOwner" "[I" := Or.inl w3_175
theorem fl_X9_63 : FL RX9 63 "TeethForCoinsModel" "readFake" "[Z" := Or.inl w3_176
theorem fl_X9_66 : FL RX9 66 "TeethForCoinsModel" "readPrice" "[I" := Or.inl w3_177
theorem fl_X9_69 : FL RX9 69 "TeethForCoinsModel" "readUse" "[I" := Or.inl w3_178
theorem fl_X9_72 : FL RX9 72 "TeethForCoinsModel" "book" "[I" := Or.inl w3_179
theorem fl_X9_75 : FL RX9 75 "TeethForCoinsModel" "above" "[I" := Or.inl w3_181
theorem fl_X9_78 : FL RX9 78 "TeethForCoinsModel" "below" "[I" := Or.inl w3_182
theorem fl_X9_81 : FL RX9 81 "TeethForCoinsModel" "keptPage" "[I" := Or.inl w3_183
theorem fl_X9_84 : FL RX9 84 "TeethForCoinsModel" "keptMore" "[I" := Or.inl w3_184
theorem fl_X9_87 : FL RX9 87 "TeethForCoinsModel" "keptBook" "[I" := Or.inl w3_185
theorem fl_X9_90 : FL RX9 90 "TeethForCoinsModel" "keptRates" "[I" := Or.inl w3_186
theorem fl_X9_93 : FL RX9 93 "TeethForCoinsModel" "isKept" "[Z" := Or.inl w3_187
theorem fl_X9_96 : FL RX9 96 "TeethForCoinsModel" "keptBargains" "[I" := Or.inl w3_188
theorem fl_X9_99 : FL RX9 99 "TeethForCoinsModel" "ring" "[I" := Or.inl w3_192
theorem fl_X9_102 : FL RX9 102 "TeethForCoinsModel" "tried" "[I" := Or.inl w3_193
theorem fl_X9_105 : FL RX9 105 "TeethForCoinsModel" "can" "[Z" := Or.inl w3_197
theorem fl_X9_108 : FL RX9 108 "TeethForCoinsModel" "thrown" "I" := Or.inl w3_150
theorem fl_X9_111 : FL RX9 111 "TeethForCoinsModel" "teeth" "I" := Or.inl w3_156
theorem fl_X9_122 : FL RX9 122 "TeethForCoinsModel" "textSize" "I" := Or.inl w3_152
theorem fl_X9_125 : FL RX9 125 "TeethForCoinsModel" "place" "I" := Or.inl w3_153
theorem fl_X9_136 : FL RX9 136 "TeethForCoinsModel" "readTeeth" "I" := Or.inl w3_170
theorem fl_X9_139 : FL RX9 139 "TeethForCoinsModel" "readGoods" "I" := Or.inl w3_171
theorem fl_X9_150 : FL RX9 150 "TeethForCoinsModel" "readLoss" "I" := Or.inl w3_168
theorem fl_X9_153 : FL RX9 153 "TeethForCoinsModel" "readTimes" "I" := Or.inl w3_169
theorem fl_X9_162 : FL RX9 162 "TeethForCoinsModel" "goods" "I" := Or.inl w3_165
theorem fl_X9_169 : FL RX9 169 "TeethForCoinsModel" "bargains" "I" := Or.inl w3_180
theorem fl_X9_205 : FL RX9 205 "TeethForCoinsModel" "paidSet" "I" := Or.inl w3_189
theorem fl_X9_208 : FL RX9 208 "TeethForCoinsModel" "changeSet" "I" := Or.inl w3_190
theorem fl_X9_234 : FL RX9 234 "TeethForCoinsModel" "bestSet" "I" := Or.inl w3_191
theorem fl_X9_279 : FL RX9 279 "TeethForCoinsModel" "ringUp" "J" := Or.inl w3_195
theorem fl_X9_283 : FL RX9 283 "TeethForCoinsModel" "ringDown" "J" := Or.inl w3_196
theorem fl_X9_289 : FL RX9 289 "TeethForCoinsModel" "ringMany" "I" := Or.inl w3_194
theorem fl_X8_79 : FL RX8 79 "TeethForCoins$Text" "length" "I" := Or.inr ⟨"TeethForCoins", tl_1 31 rfl⟩
theorem fl_X8_94 : FL RX8 94 "TeethForCoins$Teeth" "count" "I" := Or.inr ⟨"TeethForCoins", tl_1 46 rfl⟩
theorem fl_X8_97 : FL RX8 97 "TeethForCoins$Goods" "count" "I" := Or.inr ⟨"TeethForCoins", tl_1 62 rfl⟩
theorem fl_X8_98 : FL RX8 98 "TeethForCoins$Bargains" "made" "I" := Or.inr ⟨"TeethForCoins", tl_1 81 rfl⟩
theorem fl_X8_162 : FL RX8 162 "TeethForCoins$Least" "found" "Z" := Or.inr ⟨"TeethForCoins", tl_1 112 rfl⟩
theorem fl_X8_166 : FL RX8 166 "TeethForCoins$Least" "first" "I" := Or.inr ⟨"TeethForCoins", tl_1 114 rfl⟩
theorem fl_X8_169 : FL RX8 169 "TeethForCoins$Least" "third" "I" := Or.inr ⟨"TeethForCoins", tl_1 118 rfl⟩
theorem fl_X8_172 : FL RX8 172 "TeethForCoins$Least" "second" "I" := Or.inr ⟨"TeethForCoins", tl_1 116 rfl⟩
theorem fl_X8_263 : FL RX8 263 "TeethForCoins$Ring" "got" "J" := Or.inr ⟨"TeethForCoins", tl_1 139 rfl⟩
theorem fl_X8_267 : FL RX8 267 "TeethForCoins$Ring" "given" "J" := Or.inr ⟨"TeethForCoins", tl_1 141 rfl⟩
theorem fl_X8_270 : FL RX8 270 "TeethForCoins$Ring" "many" "I" := Or.inr ⟨"TeethForCoins", tl_1 137 rfl⟩
theorem fl_X8_273 : FL RX8 273 "TeethForCoins$Ring" "code" "I" := Or.inr ⟨"TeethForCoins", tl_1 135 rfl⟩
theorem fl_X8_292 : FL RX8 292 "TeethForCoins$Slot" "full" "Z" := Or.inr ⟨"TeethForCoins", tl_1 166 rfl⟩
theorem ml_X8_101 : ML RX8 101 yX8_readPart := Or.inl w2_19
theorem ml_X8_120 : ML RX8 120 yX8_isTooth := Or.inl w2_62
theorem ml_X8_127 : ML RX8 127 yX8_worthOf := Or.inl w2_67
theorem ml_X8_130 : ML RX8 130 yX8_isGood := Or.inl w2_79
theorem ml_X8_139 : ML RX8 139 yX8_isPerson := Or.inl w2_95
theorem ml_X8_145 : ML RX8 145 yX8_worthOfSet := Or.inl w2_102
theorem ml_X8_155 : ML RX8 155 yX8_paymentRefusal := Or.inl w2_125
theorem ml_X8_159 : ML RX8 159 yX8_seekFewest := Or.inl w2_131
theorem ml_X8_179 : ML RX8 179 yX8_handOver := Or.inl w2_181
theorem ml_X8_186 : ML RX8 186 yX8_isPrice := Or.inl w2_128
theorem ml_X8_189 : ML RX8 189 yX8_seekTooMuch := Or.inl w2_202
theorem ml_X8_192 : ML RX8 192 yX8_weighSets := Or.inl w2_135
theorem ml_X8_195 : ML RX8 195 yJ7_fill_53178 := Or.inl w2_210
theorem ml_X8_201 : ML RX8 201 yX8_setsOfTeeth := Or.inl w2_143
theorem ml_X8_216 : ML RX8 216 yX8_drawFrom := Or.inl w2_229
theorem ml_X8_220 : ML RX8 220 yX8_addDrawn := Or.inl w2_234
theorem ml_X8_224 : ML RX8 224 yX8_worthWorn := Or.inl w2_71
theorem ml_X8_230 : ML RX8 230 yX8_isTenths := Or.inl w3_24
theorem ml_X8_235 : ML RX8 235 yX8_power := Or.inl w3_28
theorem ml_X8_241 : ML RX8 241 yX8_ofFraction := Or.inl w3_32
theorem ml_X8_247 : ML RX8 247 yX8_isMoney := Or.inl w3_47
theorem ml_X8_260 : ML RX8 260 yX8_seekRing := Or.inl w3_66
theorem ml_X8_285 : ML RX8 285 yX8_isSlot := Or.inl w3_117
theorem ml_X8_310 : ML RX8 310 yJ6_bitCount_0f7a4 := Or.inl w2_148
theorem ml_X8_326 : ML RX8 326 yX8_commonDivisor := Or.inl w3_35
theorem ml_X1_22 : ML RX1 22 yX1_priceOf := Or.inl w2_219
theorem ml_X1_26 : ML RX1 26 yX1_useOf := Or.inl w2_224
theorem ml_X3_18 : ML RX3 18 yJ7_fill_53178 := Or.inl w1_93
theorem ml_X4_23 : ML RX4 23 yX4_moneyAt := Or.inl w3_77
theorem ml_X6_19 : ML RX6 19 yX6_set := Or.inl w2_29
theorem ml_X6_23 : ML RX6 23 yX6_passTo := Or.inl w2_33
theorem ml_X6_27 : ML RX6 27 yX6_get := Or.inl w2_37
theorem ml_X6_39 : ML RX6 39 yX6_wearTooMuch := Or.inl w3_112
theorem ml_X6_43 : ML RX6 43 yX6_copyCells := Or.inl w2_174
theorem ml_X7_19 : ML RX7 19 yX7_byteAt := Or.inl w1_233
theorem ml_X7_23 : ML RX7 23 yX7_mayFollow := Or.inl w1_237
theorem ml_X7_27 : ML RX7 27 yX7_mayBegin := Or.inl w2_8
theorem ml_X7_30 : ML RX7 30 yX7_tellsTooth := Or.inl w2_5
theorem ml_X7_34 : ML RX7 34 yX7_partLength := Or.inl w2_11
theorem ml_X7_37 : ML RX7 37 yX7_figureAt := Or.inl w2_1
theorem ml_L_15 : ML RL 15 yX8_write := Or.inl w1_213
theorem ml_L_19 : ML RL 19 yX9_write := Or.inl w4_56
theorem ml_L_20 : ML RL 20 yX8_wipe := Or.inl w1_221
theorem ml_L_24 : ML RL 24 yX9_wipe := Or.inl w4_64
theorem ml_L_25 : ML RL 25 yX8_fault := Or.inl w1_225
theorem ml_L_28 : ML RL 28 yX9_fault := Or.inl w4_68
theorem ml_L_29 : ML RL 29 yX8_market := Or.inl w2_14
theorem ml_L_32 : ML RL 32 yX9_market := Or.inl w4_96
theorem ml_L_33 : ML RL 33 yX8_about := Or.inl w2_50
theorem ml_L_37 : ML RL 37 yX9_about := Or.inl w4_104
theorem ml_L_38 : ML RL 38 yX8_tooth := Or.inl w2_58
theorem ml_L_42 : ML RL 42 yX9_tooth := Or.inl w4_112
theorem ml_L_43 : ML RL 43 yX8_good := Or.inl w2_75
theorem ml_L_46 : ML RL 46 yX9_good := Or.inl w4_128
theorem ml_L_47 : ML RL 47 yX8_purse := Or.inl w2_91
theorem ml_L_50 : ML RL 50 yX9_purse := Or.inl w4_132
theorem ml_L_51 : ML RL 51 yX8_handle := Or.inl w2_106
theorem ml_L_54 : ML RL 54 yX9_handle := Or.inl w4_151
theorem ml_L_55 : ML RL 55 yX8_bite := Or.inl w2_117
theorem ml_L_58 : ML RL 58 yX9_bite := Or.inl w4_159
theorem ml_L_59 : ML RL 59 yX8_fewest := Or.inl w2_121
theorem ml_L_63 : ML RL 63 yX9_fewest := Or.inl w4_163
theorem ml_L_64 : ML RL 64 yX8_paid := Or.inl w2_158
theorem ml_L_68 : ML RL 68 yX9_paid := Or.inl w4_181
theorem ml_L_69 : ML RL 69 yX8_pay := Or.inl w2_162
theorem ml_L_72 : ML RL 72 yX9_pay := Or.inl w4_185
theorem ml_L_73 : ML RL 73 yX8_undo := Or.inl w2_186
theorem ml_L_76 : ML RL 76 yX9_undo := Or.inl w4_197
theorem ml_L_77 : ML RL 77 yX8_tooMuch := Or.inl w2_198
theorem ml_L_81 : ML RL 81 yX9_tooMuch := Or.inl w4_205
theorem ml_L_82 : ML RL 82 yX8_sums := Or.inl w2_206
theorem ml_L_85 : ML RL 85 yX9_sums := Or.inl w4_213
theorem ml_L_86 : ML RL 86 yX8_spent := Or.inl w2_211
theorem ml_L_90 : ML RL 90 yX9_spent := Or.inl w4_217
theorem ml_L_91 : ML RL 91 yX8_caught := Or.inl w2_225
theorem ml_L_94 : ML RL 94 yX9_caught := Or.inl w4_221
theorem ml_L_95 : ML RL 95 yX8_washed := Or.inl w3_0
theorem ml_L_98 : ML RL 98 yX9_washed := Or.inl w4_236
theorem ml_L_99 : ML RL 99 yX8_life := Or.inl w3_4
theorem ml_L_102 : ML RL 102 yX9_life := Or.inl w5_1
theorem ml_L_103 : ML RL 103 yX8_trace := Or.inl w3_8
theorem ml_L_106 : ML RL 106 yX9_trace := Or.inl w5_5
theorem ml_L_107 : ML RL 107 yX8_inflated := Or.inl w3_16
theorem ml_L_110 : ML RL 110 yX9_inflated := Or.inl w5_9
theorem ml_L_111 : ML RL 111 yX8_doubt := Or.inl w3_20
theorem ml_L_115 : ML RL 115 yX9_doubt := Or.inl w5_14
theorem ml_L_116 : ML RL 116 yX8_among := Or.inl w3_38
theorem ml_L_120 : ML RL 120 yX9_among := Or.inl w5_30
theorem ml_L_121 : ML RL 121 yX8_rate := Or.inl w3_43
theorem ml_L_125 : ML RL 125 yX9_rate := Or.inl w5_34
theorem ml_L_126 : ML RL 126 yX8_ring := Or.inl w3_62
theorem ml_L_130 : ML RL 130 yX9_ring := Or.inl w5_39
theorem ml_L_131 : ML RL 131 yX8_ringAt := Or.inl w3_86
theorem ml_L_134 : ML RL 134 yX9_ringAt := Or.inl w5_51
theorem ml_L_135 : ML RL 135 yX8_should := Or.inl w3_91
theorem ml_L_138 : ML RL 138 yX9_should := Or.inl w5_55
theorem ml_L_139 : ML RL 139 yX8_stolen := Or.inl w3_95
theorem ml_L_142 : ML RL 142 yX9_stolen := Or.inl w5_59
theorem ml_L_143 : ML RL 143 yX8_thief := Or.inl w3_104
theorem ml_L_146 : ML RL 146 yX9_thief := Or.inl w5_67
theorem ml_L_147 : ML RL 147 yX8_keep := Or.inl w3_113
theorem ml_L_150 : ML RL 150 yX9_keep := Or.inl w5_71
theorem ml_L_151 : ML RL 151 yX8_again := Or.inl w3_136
theorem ml_L_154 : ML RL 154 yX9_again := Or.inl w5_75
theorem ml_X9_114 : ML RX9 114 yX9_in := Or.inl w4_61
theorem ml_X9_128 : ML RX9 128 yX9_figure := Or.inl w4_76
theorem ml_X9_132 : ML RX9 132 yX9_side := Or.inl w4_88
theorem ml_X9_142 : ML RX9 142 yX9_readTooth := Or.inl w4_84
theorem ml_X9_146 : ML RX9 146 yX9_readGood := Or.inl w4_92
theorem ml_X9_156 : ML RX9 156 yX9_readPart := Or.inl w4_80
theorem ml_X9_159 : ML RX9 159 yX9_readMarket := Or.inl w4_72
theorem ml_X9_165 : ML RX9 165 yX9_come := Or.inl w4_100
theorem ml_X9_172 : ML RX9 172 yX9_fakes := Or.inl w4_108
theorem ml_X9_175 : ML RX9 175 yX9_worthBy := Or.inl w4_124
theorem ml_X9_178 : ML RX9 178 yX9_noTooth := Or.inl w4_116
theorem ml_X9_182 : ML RX9 182 yX9_worth := Or.inl w4_120
theorem ml_X9_186 : ML RX9 186 yX9_has := Or.inl w4_148
theorem ml_X9_190 : ML RX9 190 yX9_noOne := Or.inl w4_136
theorem ml_X9_193 : ML RX9 193 yX9_setOf := Or.inl w4_140
theorem ml_X9_196 : ML RX9 196 yX9_worthOf := Or.inl w4_144
theorem ml_X9_199 : ML RX9 199 yX9_goHandle := Or.inl w4_155
theorem ml_X9_202 : ML RX9 202 yX9_many := Or.inl w4_175
theorem ml_X9_211 : ML RX9 211 yX9_next := Or.inl w4_178
theorem ml_X9_216 : ML RX9 216 yX9_noPay := Or.inl w4_167
theorem ml_X9_220 : ML RX9 220 yX9_findFewest := Or.inl w4_171
theorem ml_X9_223 : ML RX9 223 yX9_lay := Or.inl w4_189
theorem ml_X9_227 : ML RX9 227 yX9_goOver := Or.inl w4_193
theorem ml_X9_231 : ML RX9 231 yX9_take := Or.inl w4_201
theorem ml_X9_237 : ML RX9 237 yX9_findMuch := Or.inl w4_209
theorem ml_X9_248 : ML RX9 248 yX9_draw := Or.inl w4_225
theorem ml_X9_252 : ML RX9 252 yX9_add := Or.inl w4_230
theorem ml_X9_260 : ML RX9 260 yX9_noTenths := Or.inl w5_18
theorem ml_X9_267 : ML RX9 267 yX9_power := Or.inl w5_23
theorem ml_X9_273 : ML RX9 273 yX9_told := Or.inl w5_27
theorem ml_X9_286 : ML RX9 286 yX9_layRing := Or.inl w5_47
theorem ml_X9_292 : ML RX9 292 yX9_findRing := Or.inl w5_43
theorem ml_X9_295 : ML RX9 295 yX9_stolenSet := Or.inl w5_63
theorem ml_X8_82 : ML RX8 82 yX7_append := Or.inr ⟨"TeethForCoins", tl_1 217 rfl⟩
theorem ml_X8_86 : ML RX8 86 yX7_faultPlace := Or.inr ⟨"TeethForCoins", tl_1 229 rfl⟩
theorem ml_X8_90 : ML RX8 90 yX7_figureAt := Or.inr ⟨"TeethForCoins", tl_2 18 rfl⟩
theorem ml_X8_105 : ML RX8 105 yX7_byteAt := Or.inr ⟨"TeethForCoins", tl_2 23 rfl⟩
theorem ml_X8_108 : ML RX8 108 yX7_partLength := Or.inr ⟨"TeethForCoins", tl_2 46 rfl⟩
theorem ml_X8_117 : ML RX8 117 yX6_fakes := Or.inr ⟨"TeethForCoins", tl_2 54 rfl⟩
theorem ml_X8_124 : ML RX8 124 yX6_get := Or.inr ⟨"TeethForCoins", tl_2 66 rfl⟩
theorem ml_X8_133 : ML RX8 133 yX1_priceOf := Or.inr ⟨"TeethForCoins", tl_2 83 rfl⟩
theorem ml_X8_136 : ML RX8 136 yX1_useOf := Or.inr ⟨"TeethForCoins", tl_2 87 rfl⟩
theorem ml_X8_142 : ML RX8 142 yX6_ownedBy := Or.inr ⟨"TeethForCoins", tl_2 98 rfl⟩
theorem ml_X8_148 : ML RX8 148 yX6_wearDown := Or.inr ⟨"TeethForCoins", tl_2 110 rfl⟩
theorem ml_X8_151 : ML RX8 151 yX6_set := Or.inr ⟨"TeethForCoins", tl_2 41 rfl⟩
theorem ml_X8_175 : ML RX8 175 yX0_remember := Or.inr ⟨"TeethForCoins", tl_2 166 rfl⟩
theorem ml_X8_183 : ML RX8 183 yX0_takeBack := Or.inr ⟨"TeethForCoins", tl_2 190 rfl⟩
theorem ml_X8_204 : ML RX8 204 yX2_clear := Or.inr ⟨"TeethForCoins", tl_2 139 rfl⟩
theorem ml_X8_207 : ML RX8 207 yX1_priceOfSet := Or.inr ⟨"TeethForCoins", tl_2 215 rfl⟩
theorem ml_X8_210 : ML RX8 210 yX1_useOfSet := Or.inr ⟨"TeethForCoins", tl_2 220 rfl⟩
theorem ml_X8_213 : ML RX8 213 yX2_offer := Or.inr ⟨"TeethForCoins", tl_2 154 rfl⟩
theorem ml_X8_227 : ML RX8 227 yX6_traceOf := Or.inr ⟨"TeethForCoins", tl_3 12 rfl⟩
theorem ml_X8_250 : ML RX8 250 yX3_gotFor := Or.inr ⟨"TeethForCoins", tl_3 50 rfl⟩
theorem ml_X8_253 : ML RX8 253 yX3_givenFor := Or.inr ⟨"TeethForCoins", tl_3 54 rfl⟩
theorem ml_X8_256 : ML RX8 256 yX3_put := Or.inr ⟨"TeethForCoins", tl_3 58 rfl⟩
theorem ml_X8_276 : ML RX8 276 yX4_moneyAt := Or.inr ⟨"TeethForCoins", tl_3 90 rfl⟩
theorem ml_X8_279 : ML RX8 279 yX6_wearTooMuch := Or.inr ⟨"TeethForCoins", tl_3 99 rfl⟩
theorem ml_X8_282 : ML RX8 282 yX6_wearTooMuchOf := Or.inr ⟨"TeethForCoins", tl_3 108 rfl⟩
theorem ml_X8_288 : ML RX8 288 yX5_takeIn := Or.inr ⟨"TeethForCoins", tl_3 121 rfl⟩
theorem ml_X8_295 : ML RX8 295 yX5_giveOut := Or.inr ⟨"TeethForCoins", tl_3 140 rfl⟩
theorem ml_X8_298 : ML RX8 298 yX7_tellsTooth := Or.inr ⟨"TeethForCoins", tl_2 24 rfl⟩
theorem ml_X8_301 : ML RX8 301 yX6_add := Or.inr ⟨"TeethForCoins", tl_2 25 rfl⟩
theorem ml_X8_305 : ML RX8 305 yX1_add := Or.inr ⟨"TeethForCoins", tl_2 42 rfl⟩
theorem ml_X8_315 : ML RX8 315 yX6_passTo := Or.inr ⟨"TeethForCoins", tl_2 185 rfl⟩
theorem ml_X8_330 : ML RX8 330 yX4_clear := Or.inr ⟨"TeethForCoins", tl_3 70 rfl⟩
theorem ml_X8_331 : ML RX8 331 yX4_isRing := Or.inr ⟨"TeethForCoins", tl_3 74 rfl⟩
theorem ml_X8_335 : ML RX8 335 yX4_offer := Or.inr ⟨"TeethForCoins", tl_3 80 rfl⟩
theorem ml_X0_22 : ML RX0 22 yX6_copyFrom := Or.inr ⟨"TeethForCoins", tl_2 170 rfl⟩
theorem ml_X0_26 : ML RX0 26 yX6_takeBack := Or.inr ⟨"TeethForCoins", tl_2 194 rfl⟩
theorem ml_X4_27 : ML RX4 27 yX3_gotFor := Or.inr ⟨"TeethForCoins", tl_3 84 rfl⟩
theorem ml_X4_33 : ML RX4 33 yX3_givenFor := Or.inr ⟨"TeethForCoins", tl_3 85 rfl⟩
theorem ml_X5_34 : ML RX5 34 yX6_copyFrom := Or.inr ⟨"TeethForCoins", tl_3 125 rfl⟩
theorem ml_X5_38 : ML RX5 38 yX0_copyFrom := Or.inr ⟨"TeethForCoins", tl_3 126 rfl⟩
theorem ml_X5_41 : ML RX5 41 yX3_copyFrom := Or.inr ⟨"TeethForCoins", tl_3 130 rfl⟩
theorem lay_X0 : ∀ w ∈ u_ws RX0 TX0 2, w ∈ TB := by
  intro w hw
  unfold u_ws at hw
  obtain ⟨k, hk, rfl⟩ := List.mem_map.mp hw
  have hk := List.mem_range.mp hk
  match k, hk with
  | 0, _ => exact w1_82
  | 1, _ => exact w1_84
  | k + 2, hk => exact absurd hk (by omega)
theorem cls_X0 : clsOK 0 RX0 TX0 2 := ⟨rfl, lay_X0, tyX0_ok, nmX0⟩
theorem lay_X1 : ∀ w ∈ u_ws RX1 TX1 3, w ∈ TB := by
  intro w hw
  unfold u_ws at hw
  obtain ⟨k, hk, rfl⟩ := List.mem_map.mp hw
  have hk := List.mem_range.mp hk
  match k, hk with
  | 0, _ => exact w1_63
  | 1, _ => exact w1_65
  | 2, _ => exact w1_67
  | k + 3, hk => exact absurd hk (by omega)
theorem cls_X1 : clsOK 1 RX1 TX1 3 := ⟨rfl, lay_X1, tyX1_ok, nmX1⟩
theorem lay_X2 : ∀ w ∈ u_ws RX2 TX2 4, w ∈ TB := by
  intro w hw
  unfold u_ws at hw
  obtain ⟨k, hk, rfl⟩ := List.mem_map.mp hw
  have hk := List.mem_range.mp hk
  match k, hk with
  | 0, _ => exact w1_119
  | 1, _ => exact w1_121
  | 2, _ => exact w1_123
  | 3, _ => exact w1_125
  | k + 4, hk => exact absurd hk (by omega)
theorem cls_X2 : clsOK 2 RX2 TX2 4 := ⟨rfl, lay_X2, tyX2_ok, nmX2⟩
theorem lay_X3 : ∀ w ∈ u_ws RX3 TX3 2, w ∈ TB := by
  intro w hw
  unfold u_ws at hw
  obtain ⟨k, hk, rfl⟩ := List.mem_map.mp hw
  have hk := List.mem_range.mp hk
  match k, hk with
  | 0, _ => exact w1_98
  | 1, _ => exact w1_100
  | k + 2, hk => exact absurd hk (by omega)
theorem cls_X3 : clsOK 3 RX3 TX3 2 := ⟨rfl, lay_X3, tyX3_ok, nmX3⟩
theorem lay_X4 : ∀ w ∈ u_ws RX4 TX4 4, w ∈ TB := by
  intro w hw
  unfold u_ws at hw
  obtain ⟨k, hk, rfl⟩ := List.mem_map.mp hw
  have hk := List.mem_range.mp hk
  match k, hk with
  | 0, _ => exact w1_142
  | 1, _ => exact w1_144
  | 2, _ => exact w1_146
  | 3, _ => exact w1_148
  | k + 4, hk => exact absurd hk (by omega)
theorem cls_X4 : clsOK 4 RX4 TX4 4 := ⟨rfl, lay_X4, tyX4_ok, nmX4⟩
theorem lay_X5 : ∀ w ∈ u_ws RX5 TX5 4, w ∈ TB := by
  intro w hw
  unfold u_ws at hw
  obtain ⟨k, hk, rfl⟩ := List.mem_map.mp hw
  have hk := List.mem_range.mp hk
  match k, hk with
  | 0, _ => exact w1_167
  | 1, _ => exact w1_169
  | 2, _ => exact w1_171
  | 3, _ => exact w1_173
  | k + 4, hk => exact absurd hk (by omega)
theorem cls_X5 : clsOK 5 RX5 TX5 4 := ⟨rfl, lay_X5, tyX5_ok, nmX5⟩
theorem lay_X6 : ∀ w ∈ u_ws RX6 TX6 2, w ∈ TB := by
  intro w hw
  unfold u_ws at hw
  obtain ⟨k, hk, rfl⟩ := List.mem_map.mp hw
  have hk := List.mem_range.mp hk
  match k, hk with
  | 0, _ => exact w1_47
  | 1, _ => exact w1_49
  | k + 2, hk => exact absurd hk (by omega)
theorem cls_X6 : clsOK 6 RX6 TX6 2 := ⟨rfl, lay_X6, tyX6_ok, nmX6⟩
theorem lay_X7 : ∀ w ∈ u_ws RX7 TX7 2, w ∈ TB := by
  intro w hw
  unfold u_ws at hw
  obtain ⟨k, hk, rfl⟩ := List.mem_map.mp hw
  have hk := List.mem_range.mp hk
  match k, hk with
  | 0, _ => exact w1_32
  | 1, _ => exact w1_34
  | k + 2, hk => exact absurd hk (by omega)
theorem cls_X7 : clsOK 7 RX7 TX7 2 := ⟨rfl, lay_X7, tyX7_ok, nmX7⟩
theorem lay_X8 : ∀ w ∈ u_ws RX8 TX8 12, w ∈ TB := by
  intro w hw
  unfold u_ws at hw
  obtain ⟨k, hk, rfl⟩ := List.mem_map.mp hw
  have hk := List.mem_range.mp hk
  match k, hk with
  | 0, _ => exact w1_188
  | 1, _ => exact w1_190
  | 2, _ => exact w1_192
  | 3, _ => exact w1_194
  | 4, _ => exact w1_196
  | 5, _ => exact w1_198
  | 6, _ => exact w1_200
  | 7, _ => exact w1_202
  | 8, _ => exact w1_204
  | 9, _ => exact w1_206
  | 10, _ => exact w1_208
  | 11, _ => exact w1_210
  | k + 12, hk => exact absurd hk (by omega)
theorem cls_X8 : clsOK 8 RX8 TX8 12 := ⟨rfl, lay_X8, tyX8_ok, nmX8⟩
theorem lay_X9 : ∀ w ∈ u_ws RX9 TX9 48, w ∈ TB := by
  intro w hw
  unfold u_ws at hw
  obtain ⟨k, hk, rfl⟩ := List.mem_map.mp hw
  have hk := List.mem_range.mp hk
  match k, hk with
  | 0, _ => exact w3_198
  | 1, _ => exact w3_200
  | 2, _ => exact w3_202
  | 3, _ => exact w3_204
  | 4, _ => exact w3_206
  | 5, _ => exact w3_208
  | 6, _ => exact w3_210
  | 7, _ => exact w3_212
  | 8, _ => exact w3_214
  | 9, _ => exact w3_216
  | 10, _ => exact w3_218
  | 11, _ => exact w3_220
  | 12, _ => exact w3_222
  | 13, _ => exact w3_224
  | 14, _ => exact w3_226
  | 15, _ => exact w3_228
  | 16, _ => exact w3_230
  | 17, _ => exact w3_232
  | 18, _ => exact w3_234
  | 19, _ => exact w3_236
  | 20, _ => exact w3_238
  | 21, _ => exact w4_0
  | 22, _ => exact w4_2
  | 23, _ => exact w4_4
  | 24, _ => exact w4_6
  | 25, _ => exact w4_8
  | 26, _ => exact w4_10
  | 27, _ => exact w4_12
  | 28, _ => exact w4_14
  | 29, _ => exact w4_16
  | 30, _ => exact w4_18
  | 31, _ => exact w4_20
  | 32, _ => exact w4_22
  | 33, _ => exact w4_24
  | 34, _ => exact w4_26
  | 35, _ => exact w4_28
  | 36, _ => exact w4_30
  | 37, _ => exact w4_32
  | 38, _ => exact w4_34
  | 39, _ => exact w4_36
  | 40, _ => exact w4_38
  | 41, _ => exact w4_40
  | 42, _ => exact w4_42
  | 43, _ => exact w4_44
  | 44, _ => exact w4_46
  | 45, _ => exact w4_48
  | 46, _ => exact w4_50
  | 47, _ => exact w4_52
  | k + 48, hk => exact absurd hk (by omega)
theorem cls_X9 : clsOK 9 RX9 TX9 48 := ⟨rfl, lay_X9, tyX9_ok, nmX9⟩
end
