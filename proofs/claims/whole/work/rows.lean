section
-- ===== PART A: goes FIRST, ahead of the names: the tables' words, and 'selects' of the private methods out of them =====
/-- a private method of a class that the tables say can be made, by its rows of tables_1 -/
def lw_okq (q : MethodName × Nat) : Prop := (q.1.cls ≠ "java/lang/invoke/MethodHandle" ∧ q.1.cls ≠ "java/lang/invoke/VarHandle") ∧ Cond.instantiable q.1.cls q.2 ∈ tables_1 ∧ Cond.privateMethod q.1 ∈ tables_1 ∧ Cond.instanceMethod q.1 ∈ tables_1
theorem lw_p0 : lw_okq (⟨"TeethForCoins$Text", "append", "(B)V"⟩, 2) := ⟨⟨by decide +kernel, by decide +kernel⟩, List.mem_of_getElem? (i := 24) (by decide +kernel), List.mem_of_getElem? (i := 218) (by decide +kernel), List.mem_of_getElem? (i := 219) (by decide +kernel)⟩
theorem lw_p1 : lw_okq (⟨"TeethForCoins$Text", "faultPlace", "()I"⟩, 2) := ⟨⟨by decide +kernel, by decide +kernel⟩, List.mem_of_getElem? (i := 24) (by decide +kernel), List.mem_of_getElem? (i := 230) (by decide +kernel), List.mem_of_getElem? (i := 231) (by decide +kernel)⟩
theorem lw_p2 : lw_okq (⟨"TeethForCoins$Text", "byteAt", "(I)I"⟩, 2) := ⟨⟨by decide +kernel, by decide +kernel⟩, List.mem_of_getElem? (i := 24) (by decide +kernel), List.mem_of_getElem? (i := 234) (by decide +kernel), List.mem_of_getElem? (i := 235) (by decide +kernel)⟩
theorem lw_p3 : lw_okq (⟨"TeethForCoins$Text", "mayFollow", "(III)Z"⟩, 2) := ⟨⟨by decide +kernel, by decide +kernel⟩, List.mem_of_getElem? (i := 24) (by decide +kernel), List.mem_of_getElem? (i := 238) (by decide +kernel), List.mem_of_getElem? (i := 239) (by decide +kernel)⟩
theorem lw_p4 : lw_okq (⟨"TeethForCoins$Text", "figureAt", "(I)I"⟩, 2) := ⟨⟨by decide +kernel, by decide +kernel⟩, List.mem_of_getElem? (i := 24) (by decide +kernel), List.mem_of_getElem? (i := 242) (by decide +kernel), List.mem_of_getElem? (i := 243) (by decide +kernel)⟩
theorem lw_p5 : lw_okq (⟨"TeethForCoins", "readPart", "(I)V"⟩, 12) := ⟨⟨by decide +kernel, by decide +kernel⟩, List.mem_of_getElem? (i := 16) (by decide +kernel), List.mem_of_getElem? (i := 260) (by decide +kernel), List.mem_of_getElem? (i := 261) (by decide +kernel)⟩
theorem lw_p6 : lw_okq (⟨"TeethForCoins$Teeth", "add", "(IZI)I"⟩, 2) := ⟨⟨by decide +kernel, by decide +kernel⟩, List.mem_of_getElem? (i := 39) (by decide +kernel), List.mem_of_getElem? (i := 266) (by decide +kernel), List.mem_of_getElem? (i := 267) (by decide +kernel)⟩
theorem lw_p7 : lw_okq (⟨"TeethForCoins$Teeth", "set", "(III)V"⟩, 2) := ⟨⟨by decide +kernel, by decide +kernel⟩, List.mem_of_getElem? (i := 39) (by decide +kernel), List.mem_of_getElem? (i := 270) (by decide +kernel), List.mem_of_getElem? (i := 271) (by decide +kernel)⟩
theorem lw_p8 : lw_okq (⟨"TeethForCoins$Teeth", "passTo", "(II)V"⟩, 2) := ⟨⟨by decide +kernel, by decide +kernel⟩, List.mem_of_getElem? (i := 39) (by decide +kernel), List.mem_of_getElem? (i := 274) (by decide +kernel), List.mem_of_getElem? (i := 275) (by decide +kernel)⟩
theorem lw_p9 : lw_okq (⟨"TeethForCoins$Teeth", "get", "(II)I"⟩, 2) := ⟨⟨by decide +kernel, by decide +kernel⟩, List.mem_of_getElem? (i := 39) (by decide +kernel), List.mem_of_getElem? (i := 278) (by decide +kernel), List.mem_of_getElem? (i := 279) (by decide +kernel)⟩
theorem lw_p10 : lw_okq (⟨"TeethForCoins$Goods", "add", "(II)V"⟩, 3) := ⟨⟨by decide +kernel, by decide +kernel⟩, List.mem_of_getElem? (i := 54) (by decide +kernel), List.mem_of_getElem? (i := 283) (by decide +kernel), List.mem_of_getElem? (i := 284) (by decide +kernel)⟩
theorem lw_p11 : lw_okq (⟨"TeethForCoins$Teeth", "fakes", "()I"⟩, 2) := ⟨⟨by decide +kernel, by decide +kernel⟩, List.mem_of_getElem? (i := 39) (by decide +kernel), List.mem_of_getElem? (i := 295) (by decide +kernel), List.mem_of_getElem? (i := 296) (by decide +kernel)⟩
theorem lw_p12 : lw_okq (⟨"TeethForCoins", "isTooth", "(I)Z"⟩, 12) := ⟨⟨by decide +kernel, by decide +kernel⟩, List.mem_of_getElem? (i := 16) (by decide +kernel), List.mem_of_getElem? (i := 303) (by decide +kernel), List.mem_of_getElem? (i := 304) (by decide +kernel)⟩
theorem lw_p13 : lw_okq (⟨"TeethForCoins", "worthOf", "(I)I"⟩, 12) := ⟨⟨by decide +kernel, by decide +kernel⟩, List.mem_of_getElem? (i := 16) (by decide +kernel), List.mem_of_getElem? (i := 308) (by decide +kernel), List.mem_of_getElem? (i := 309) (by decide +kernel)⟩
theorem lw_p14 : lw_okq (⟨"TeethForCoins", "worthWorn", "(II)I"⟩, 12) := ⟨⟨by decide +kernel, by decide +kernel⟩, List.mem_of_getElem? (i := 16) (by decide +kernel), List.mem_of_getElem? (i := 312) (by decide +kernel), List.mem_of_getElem? (i := 313) (by decide +kernel)⟩
theorem lw_p15 : lw_okq (⟨"TeethForCoins", "isGood", "(I)Z"⟩, 12) := ⟨⟨by decide +kernel, by decide +kernel⟩, List.mem_of_getElem? (i := 16) (by decide +kernel), List.mem_of_getElem? (i := 320) (by decide +kernel), List.mem_of_getElem? (i := 321) (by decide +kernel)⟩
def lw_privs_1 : List (MethodName × Nat) := [(⟨"TeethForCoins$Text", "append", "(B)V"⟩, 2), (⟨"TeethForCoins$Text", "faultPlace", "()I"⟩, 2), (⟨"TeethForCoins$Text", "byteAt", "(I)I"⟩, 2), (⟨"TeethForCoins$Text", "mayFollow", "(III)Z"⟩, 2), (⟨"TeethForCoins$Text", "figureAt", "(I)I"⟩, 2), (⟨"TeethForCoins", "readPart", "(I)V"⟩, 12), (⟨"TeethForCoins$Teeth", "add", "(IZI)I"⟩, 2), (⟨"TeethForCoins$Teeth", "set", "(III)V"⟩, 2), (⟨"TeethForCoins$Teeth", "passTo", "(II)V"⟩, 2), (⟨"TeethForCoins$Teeth", "get", "(II)I"⟩, 2), (⟨"TeethForCoins$Goods", "add", "(II)V"⟩, 3), (⟨"TeethForCoins$Teeth", "fakes", "()I"⟩, 2), (⟨"TeethForCoins", "isTooth", "(I)Z"⟩, 12), (⟨"TeethForCoins", "worthOf", "(I)I"⟩, 12), (⟨"TeethForCoins", "worthWorn", "(II)I"⟩, 12), (⟨"TeethForCoins", "isGood", "(I)Z"⟩, 12)]
theorem lw_r1 : ∀ q ∈ lw_privs_1, lw_okq q := List.forall_mem_cons.mpr ⟨lw_p0, List.forall_mem_cons.mpr ⟨lw_p1, List.forall_mem_cons.mpr ⟨lw_p2, List.forall_mem_cons.mpr ⟨lw_p3, List.forall_mem_cons.mpr ⟨lw_p4, List.forall_mem_cons.mpr ⟨lw_p5, List.forall_mem_cons.mpr ⟨lw_p6, List.forall_mem_cons.mpr ⟨lw_p7, List.forall_mem_cons.mpr ⟨lw_p8, List.forall_mem_cons.mpr ⟨lw_p9, List.forall_mem_cons.mpr ⟨lw_p10, List.forall_mem_cons.mpr ⟨lw_p11, List.forall_mem_cons.mpr ⟨lw_p12, List.forall_mem_cons.mpr ⟨lw_p13, List.forall_mem_cons.mpr ⟨lw_p14, List.forall_mem_cons.mpr ⟨lw_p15, fun _ h => absurd h List.not_mem_nil⟩⟩⟩⟩⟩⟩⟩⟩⟩⟩⟩⟩⟩⟩⟩⟩
theorem lw_p16 : lw_okq (⟨"TeethForCoins$Goods", "priceOf", "(I)I"⟩, 3) := ⟨⟨by decide +kernel, by decide +kernel⟩, List.mem_of_getElem? (i := 54) (by decide +kernel), List.mem_of_getElem? (i := 324) (by decide +kernel), List.mem_of_getElem? (i := 325) (by decide +kernel)⟩
theorem lw_p17 : lw_okq (⟨"TeethForCoins$Goods", "useOf", "(I)I"⟩, 3) := ⟨⟨by decide +kernel, by decide +kernel⟩, List.mem_of_getElem? (i := 54) (by decide +kernel), List.mem_of_getElem? (i := 328) (by decide +kernel), List.mem_of_getElem? (i := 329) (by decide +kernel)⟩
theorem lw_p18 : lw_okq (⟨"TeethForCoins$Teeth", "ownedBy", "(I)I"⟩, 2) := ⟨⟨by decide +kernel, by decide +kernel⟩, List.mem_of_getElem? (i := 39) (by decide +kernel), List.mem_of_getElem? (i := 339) (by decide +kernel), List.mem_of_getElem? (i := 340) (by decide +kernel)⟩
theorem lw_p19 : lw_okq (⟨"TeethForCoins", "worthOfSet", "(I)I"⟩, 12) := ⟨⟨by decide +kernel, by decide +kernel⟩, List.mem_of_getElem? (i := 16) (by decide +kernel), List.mem_of_getElem? (i := 343) (by decide +kernel), List.mem_of_getElem? (i := 344) (by decide +kernel)⟩
theorem lw_p20 : lw_okq (⟨"TeethForCoins$Teeth", "wearDown", "(I)V"⟩, 2) := ⟨⟨by decide +kernel, by decide +kernel⟩, List.mem_of_getElem? (i := 39) (by decide +kernel), List.mem_of_getElem? (i := 351) (by decide +kernel), List.mem_of_getElem? (i := 352) (by decide +kernel)⟩
theorem lw_p21 : lw_okq (⟨"TeethForCoins", "seekFewest", "(III)V"⟩, 12) := ⟨⟨by decide +kernel, by decide +kernel⟩, List.mem_of_getElem? (i := 16) (by decide +kernel), List.mem_of_getElem? (i := 372) (by decide +kernel), List.mem_of_getElem? (i := 373) (by decide +kernel)⟩
theorem lw_p22 : lw_okq (⟨"TeethForCoins", "weighSets", "(I)V"⟩, 12) := ⟨⟨by decide +kernel, by decide +kernel⟩, List.mem_of_getElem? (i := 16) (by decide +kernel), List.mem_of_getElem? (i := 376) (by decide +kernel), List.mem_of_getElem? (i := 377) (by decide +kernel)⟩
theorem lw_p23 : lw_okq (⟨"TeethForCoins$Least", "clear", "()V"⟩, 4) := ⟨⟨by decide +kernel, by decide +kernel⟩, List.mem_of_getElem? (i := 106) (by decide +kernel), List.mem_of_getElem? (i := 380) (by decide +kernel), List.mem_of_getElem? (i := 381) (by decide +kernel)⟩
theorem lw_p24 : lw_okq (⟨"TeethForCoins", "setsOfTeeth", "()I"⟩, 12) := ⟨⟨by decide +kernel, by decide +kernel⟩, List.mem_of_getElem? (i := 16) (by decide +kernel), List.mem_of_getElem? (i := 384) (by decide +kernel), List.mem_of_getElem? (i := 385) (by decide +kernel)⟩
theorem lw_p25 : lw_okq (⟨"TeethForCoins$Least", "offer", "(III)V"⟩, 4) := ⟨⟨by decide +kernel, by decide +kernel⟩, List.mem_of_getElem? (i := 106) (by decide +kernel), List.mem_of_getElem? (i := 395) (by decide +kernel), List.mem_of_getElem? (i := 396) (by decide +kernel)⟩
theorem lw_p26 : lw_okq (⟨"TeethForCoins$Bargains", "remember", "(LTeethForCoins$Teeth;)V"⟩, 2) := ⟨⟨by decide +kernel, by decide +kernel⟩, List.mem_of_getElem? (i := 71) (by decide +kernel), List.mem_of_getElem? (i := 407) (by decide +kernel), List.mem_of_getElem? (i := 408) (by decide +kernel)⟩
theorem lw_p27 : lw_okq (⟨"TeethForCoins$Teeth", "copyFrom", "(LTeethForCoins$Teeth;)V"⟩, 2) := ⟨⟨by decide +kernel, by decide +kernel⟩, List.mem_of_getElem? (i := 39) (by decide +kernel), List.mem_of_getElem? (i := 411) (by decide +kernel), List.mem_of_getElem? (i := 412) (by decide +kernel)⟩
theorem lw_p28 : lw_okq (⟨"TeethForCoins$Teeth", "copyCells", "(LTeethForCoins$Teeth;II)V"⟩, 2) := ⟨⟨by decide +kernel, by decide +kernel⟩, List.mem_of_getElem? (i := 39) (by decide +kernel), List.mem_of_getElem? (i := 415) (by decide +kernel), List.mem_of_getElem? (i := 416) (by decide +kernel)⟩
theorem lw_p29 : lw_okq (⟨"TeethForCoins", "handOver", "(II)V"⟩, 12) := ⟨⟨by decide +kernel, by decide +kernel⟩, List.mem_of_getElem? (i := 16) (by decide +kernel), List.mem_of_getElem? (i := 422) (by decide +kernel), List.mem_of_getElem? (i := 423) (by decide +kernel)⟩
theorem lw_p30 : lw_okq (⟨"TeethForCoins$Bargains", "takeBack", "(LTeethForCoins$Teeth;)V"⟩, 2) := ⟨⟨by decide +kernel, by decide +kernel⟩, List.mem_of_getElem? (i := 71) (by decide +kernel), List.mem_of_getElem? (i := 431) (by decide +kernel), List.mem_of_getElem? (i := 432) (by decide +kernel)⟩
theorem lw_p31 : lw_okq (⟨"TeethForCoins$Teeth", "takeBack", "(LTeethForCoins$Teeth;)V"⟩, 2) := ⟨⟨by decide +kernel, by decide +kernel⟩, List.mem_of_getElem? (i := 39) (by decide +kernel), List.mem_of_getElem? (i := 435) (by decide +kernel), List.mem_of_getElem? (i := 436) (by decide +kernel)⟩
def lw_privs_2 : List (MethodName × Nat) := [(⟨"TeethForCoins$Goods", "priceOf", "(I)I"⟩, 3), (⟨"TeethForCoins$Goods", "useOf", "(I)I"⟩, 3), (⟨"TeethForCoins$Teeth", "ownedBy", "(I)I"⟩, 2), (⟨"TeethForCoins", "worthOfSet", "(I)I"⟩, 12), (⟨"TeethForCoins$Teeth", "wearDown", "(I)V"⟩, 2), (⟨"TeethForCoins", "seekFewest", "(III)V"⟩, 12), (⟨"TeethForCoins", "weighSets", "(I)V"⟩, 12), (⟨"TeethForCoins$Least", "clear", "()V"⟩, 4), (⟨"TeethForCoins", "setsOfTeeth", "()I"⟩, 12), (⟨"TeethForCoins$Least", "offer", "(III)V"⟩, 4), (⟨"TeethForCoins$Bargains", "remember", "(LTeethForCoins$Teeth;)V"⟩, 2), (⟨"TeethForCoins$Teeth", "copyFrom", "(LTeethForCoins$Teeth;)V"⟩, 2), (⟨"TeethForCoins$Teeth", "copyCells", "(LTeethForCoins$Teeth;II)V"⟩, 2), (⟨"TeethForCoins", "handOver", "(II)V"⟩, 12), (⟨"TeethForCoins$Bargains", "takeBack", "(LTeethForCoins$Teeth;)V"⟩, 2), (⟨"TeethForCoins$Teeth", "takeBack", "(LTeethForCoins$Teeth;)V"⟩, 2)]
theorem lw_r2 : ∀ q ∈ lw_privs_2, lw_okq q := List.forall_mem_cons.mpr ⟨lw_p16, List.forall_mem_cons.mpr ⟨lw_p17, List.forall_mem_cons.mpr ⟨lw_p18, List.forall_mem_cons.mpr ⟨lw_p19, List.forall_mem_cons.mpr ⟨lw_p20, List.forall_mem_cons.mpr ⟨lw_p21, List.forall_mem_cons.mpr ⟨lw_p22, List.forall_mem_cons.mpr ⟨lw_p23, List.forall_mem_cons.mpr ⟨lw_p24, List.forall_mem_cons.mpr ⟨lw_p25, List.forall_mem_cons.mpr ⟨lw_p26, List.forall_mem_cons.mpr ⟨lw_p27, List.forall_mem_cons.mpr ⟨lw_p28, List.forall_mem_cons.mpr ⟨lw_p29, List.forall_mem_cons.mpr ⟨lw_p30, List.forall_mem_cons.mpr ⟨lw_p31, fun _ h => absurd h List.not_mem_nil⟩⟩⟩⟩⟩⟩⟩⟩⟩⟩⟩⟩⟩⟩⟩⟩
theorem lw_p32 : lw_okq (⟨"TeethForCoins", "seekTooMuch", "(II)V"⟩, 12) := ⟨⟨by decide +kernel, by decide +kernel⟩, List.mem_of_getElem? (i := 16) (by decide +kernel), List.mem_of_getElem? (i := 443) (by decide +kernel), List.mem_of_getElem? (i := 444) (by decide +kernel)⟩
theorem lw_p33 : lw_okq (⟨"TeethForCoins$Goods", "priceOfSet", "(I)I"⟩, 3) := ⟨⟨by decide +kernel, by decide +kernel⟩, List.mem_of_getElem? (i := 54) (by decide +kernel), List.mem_of_getElem? (i := 456) (by decide +kernel), List.mem_of_getElem? (i := 457) (by decide +kernel)⟩
theorem lw_p34 : lw_okq (⟨"TeethForCoins$Goods", "useOfSet", "(I)I"⟩, 3) := ⟨⟨by decide +kernel, by decide +kernel⟩, List.mem_of_getElem? (i := 54) (by decide +kernel), List.mem_of_getElem? (i := 461) (by decide +kernel), List.mem_of_getElem? (i := 462) (by decide +kernel)⟩
theorem lw_p35 : lw_okq (⟨"TeethForCoins", "addDrawn", "(IJ)V"⟩, 12) := ⟨⟨by decide +kernel, by decide +kernel⟩, List.mem_of_getElem? (i := 16) (by decide +kernel), List.mem_of_getElem? (i := 475) (by decide +kernel), List.mem_of_getElem? (i := 476) (by decide +kernel)⟩
theorem lw_p36 : lw_okq (⟨"TeethForCoins$Teeth", "traceOf", "(II)I"⟩, 2) := ⟨⟨by decide +kernel, by decide +kernel⟩, List.mem_of_getElem? (i := 39) (by decide +kernel), List.mem_of_getElem? (i := 493) (by decide +kernel), List.mem_of_getElem? (i := 494) (by decide +kernel)⟩
theorem lw_p37 : lw_okq (⟨"TeethForCoins$Rates", "gotFor", "(II)I"⟩, 2) := ⟨⟨by decide +kernel, by decide +kernel⟩, List.mem_of_getElem? (i := 88) (by decide +kernel), List.mem_of_getElem? (i := 531) (by decide +kernel), List.mem_of_getElem? (i := 532) (by decide +kernel)⟩
theorem lw_p38 : lw_okq (⟨"TeethForCoins$Rates", "givenFor", "(II)I"⟩, 2) := ⟨⟨by decide +kernel, by decide +kernel⟩, List.mem_of_getElem? (i := 88) (by decide +kernel), List.mem_of_getElem? (i := 535) (by decide +kernel), List.mem_of_getElem? (i := 536) (by decide +kernel)⟩
theorem lw_p39 : lw_okq (⟨"TeethForCoins$Rates", "put", "(IIII)V"⟩, 2) := ⟨⟨by decide +kernel, by decide +kernel⟩, List.mem_of_getElem? (i := 88) (by decide +kernel), List.mem_of_getElem? (i := 539) (by decide +kernel), List.mem_of_getElem? (i := 540) (by decide +kernel)⟩
theorem lw_p40 : lw_okq (⟨"TeethForCoins", "seekRing", "()V"⟩, 12) := ⟨⟨by decide +kernel, by decide +kernel⟩, List.mem_of_getElem? (i := 16) (by decide +kernel), List.mem_of_getElem? (i := 547) (by decide +kernel), List.mem_of_getElem? (i := 548) (by decide +kernel)⟩
theorem lw_p41 : lw_okq (⟨"TeethForCoins$Ring", "clear", "()V"⟩, 4) := ⟨⟨by decide +kernel, by decide +kernel⟩, List.mem_of_getElem? (i := 129) (by decide +kernel), List.mem_of_getElem? (i := 551) (by decide +kernel), List.mem_of_getElem? (i := 552) (by decide +kernel)⟩
theorem lw_p42 : lw_okq (⟨"TeethForCoins$Ring", "offer", "(LTeethForCoins$Rates;II)V"⟩, 4) := ⟨⟨by decide +kernel, by decide +kernel⟩, List.mem_of_getElem? (i := 129) (by decide +kernel), List.mem_of_getElem? (i := 561) (by decide +kernel), List.mem_of_getElem? (i := 562) (by decide +kernel)⟩
theorem lw_p43 : lw_okq (⟨"TeethForCoins$Teeth", "wearTooMuch", "(I)I"⟩, 2) := ⟨⟨by decide +kernel, by decide +kernel⟩, List.mem_of_getElem? (i := 39) (by decide +kernel), List.mem_of_getElem? (i := 580) (by decide +kernel), List.mem_of_getElem? (i := 581) (by decide +kernel)⟩
theorem lw_p44 : lw_okq (⟨"TeethForCoins$Teeth", "wearTooMuchOf", "(I)I"⟩, 2) := ⟨⟨by decide +kernel, by decide +kernel⟩, List.mem_of_getElem? (i := 39) (by decide +kernel), List.mem_of_getElem? (i := 589) (by decide +kernel), List.mem_of_getElem? (i := 590) (by decide +kernel)⟩
theorem lw_p45 : lw_okq (⟨"TeethForCoins", "isSlot", "(I)Z"⟩, 12) := ⟨⟨by decide +kernel, by decide +kernel⟩, List.mem_of_getElem? (i := 16) (by decide +kernel), List.mem_of_getElem? (i := 598) (by decide +kernel), List.mem_of_getElem? (i := 599) (by decide +kernel)⟩
theorem lw_p46 : lw_okq (⟨"TeethForCoins$Slot", "takeIn", "(LTeethForCoins$Teeth;LTeethForCoins$Bargains;LTeethForCoins$Rates;)V"⟩, 4) := ⟨⟨by decide +kernel, by decide +kernel⟩, List.mem_of_getElem? (i := 151) (by decide +kernel), List.mem_of_getElem? (i := 602) (by decide +kernel), List.mem_of_getElem? (i := 603) (by decide +kernel)⟩
theorem lw_p47 : lw_okq (⟨"TeethForCoins$Bargains", "copyFrom", "(LTeethForCoins$Bargains;)V"⟩, 2) := ⟨⟨by decide +kernel, by decide +kernel⟩, List.mem_of_getElem? (i := 71) (by decide +kernel), List.mem_of_getElem? (i := 607) (by decide +kernel), List.mem_of_getElem? (i := 608) (by decide +kernel)⟩
def lw_privs_3 : List (MethodName × Nat) := [(⟨"TeethForCoins", "seekTooMuch", "(II)V"⟩, 12), (⟨"TeethForCoins$Goods", "priceOfSet", "(I)I"⟩, 3), (⟨"TeethForCoins$Goods", "useOfSet", "(I)I"⟩, 3), (⟨"TeethForCoins", "addDrawn", "(IJ)V"⟩, 12), (⟨"TeethForCoins$Teeth", "traceOf", "(II)I"⟩, 2), (⟨"TeethForCoins$Rates", "gotFor", "(II)I"⟩, 2), (⟨"TeethForCoins$Rates", "givenFor", "(II)I"⟩, 2), (⟨"TeethForCoins$Rates", "put", "(IIII)V"⟩, 2), (⟨"TeethForCoins", "seekRing", "()V"⟩, 12), (⟨"TeethForCoins$Ring", "clear", "()V"⟩, 4), (⟨"TeethForCoins$Ring", "offer", "(LTeethForCoins$Rates;II)V"⟩, 4), (⟨"TeethForCoins$Teeth", "wearTooMuch", "(I)I"⟩, 2), (⟨"TeethForCoins$Teeth", "wearTooMuchOf", "(I)I"⟩, 2), (⟨"TeethForCoins", "isSlot", "(I)Z"⟩, 12), (⟨"TeethForCoins$Slot", "takeIn", "(LTeethForCoins$Teeth;LTeethForCoins$Bargains;LTeethForCoins$Rates;)V"⟩, 4), (⟨"TeethForCoins$Bargains", "copyFrom", "(LTeethForCoins$Bargains;)V"⟩, 2)]
theorem lw_r3 : ∀ q ∈ lw_privs_3, lw_okq q := List.forall_mem_cons.mpr ⟨lw_p32, List.forall_mem_cons.mpr ⟨lw_p33, List.forall_mem_cons.mpr ⟨lw_p34, List.forall_mem_cons.mpr ⟨lw_p35, List.forall_mem_cons.mpr ⟨lw_p36, List.forall_mem_cons.mpr ⟨lw_p37, List.forall_mem_cons.mpr ⟨lw_p38, List.forall_mem_cons.mpr ⟨lw_p39, List.forall_mem_cons.mpr ⟨lw_p40, List.forall_mem_cons.mpr ⟨lw_p41, List.forall_mem_cons.mpr ⟨lw_p42, List.forall_mem_cons.mpr ⟨lw_p43, List.forall_mem_cons.mpr ⟨lw_p44, List.forall_mem_cons.mpr ⟨lw_p45, List.forall_mem_cons.mpr ⟨lw_p46, List.forall_mem_cons.mpr ⟨lw_p47, fun _ h => absurd h List.not_mem_nil⟩⟩⟩⟩⟩⟩⟩⟩⟩⟩⟩⟩⟩⟩⟩⟩
theorem lw_p48 : lw_okq (⟨"TeethForCoins$Rates", "copyFrom", "(LTeethForCoins$Rates;)V"⟩, 2) := ⟨⟨by decide +kernel, by decide +kernel⟩, List.mem_of_getElem? (i := 88) (by decide +kernel), List.mem_of_getElem? (i := 611) (by decide +kernel), List.mem_of_getElem? (i := 612) (by decide +kernel)⟩
theorem lw_p49 : lw_okq (⟨"TeethForCoins$Slot", "giveOut", "(LTeethForCoins$Teeth;LTeethForCoins$Bargains;LTeethForCoins$Rates;)V"⟩, 4) := ⟨⟨by decide +kernel, by decide +kernel⟩, List.mem_of_getElem? (i := 151) (by decide +kernel), List.mem_of_getElem? (i := 621) (by decide +kernel), List.mem_of_getElem? (i := 622) (by decide +kernel)⟩
theorem lw_p50 : lw_okq (⟨"TeethForCoinsModel", "readMarket", "()I"⟩, 48) := ⟨⟨by decide +kernel, by decide +kernel⟩, List.mem_of_getElem? (i := 625) (by decide +kernel), List.mem_of_getElem? (i := 793) (by decide +kernel), List.mem_of_getElem? (i := 794) (by decide +kernel)⟩
theorem lw_p51 : lw_okq (⟨"TeethForCoinsModel", "figure", "(II)I"⟩, 48) := ⟨⟨by decide +kernel, by decide +kernel⟩, List.mem_of_getElem? (i := 625) (by decide +kernel), List.mem_of_getElem? (i := 797) (by decide +kernel), List.mem_of_getElem? (i := 798) (by decide +kernel)⟩
theorem lw_p52 : lw_okq (⟨"TeethForCoinsModel", "readPart", "()Z"⟩, 48) := ⟨⟨by decide +kernel, by decide +kernel⟩, List.mem_of_getElem? (i := 625) (by decide +kernel), List.mem_of_getElem? (i := 801) (by decide +kernel), List.mem_of_getElem? (i := 802) (by decide +kernel)⟩
theorem lw_p53 : lw_okq (⟨"TeethForCoinsModel", "readTooth", "(Z)Z"⟩, 48) := ⟨⟨by decide +kernel, by decide +kernel⟩, List.mem_of_getElem? (i := 625) (by decide +kernel), List.mem_of_getElem? (i := 805) (by decide +kernel), List.mem_of_getElem? (i := 806) (by decide +kernel)⟩
theorem lw_p54 : lw_okq (⟨"TeethForCoinsModel", "side", "()I"⟩, 48) := ⟨⟨by decide +kernel, by decide +kernel⟩, List.mem_of_getElem? (i := 625) (by decide +kernel), List.mem_of_getElem? (i := 809) (by decide +kernel), List.mem_of_getElem? (i := 810) (by decide +kernel)⟩
theorem lw_p55 : lw_okq (⟨"TeethForCoinsModel", "readGood", "()Z"⟩, 48) := ⟨⟨by decide +kernel, by decide +kernel⟩, List.mem_of_getElem? (i := 625) (by decide +kernel), List.mem_of_getElem? (i := 813) (by decide +kernel), List.mem_of_getElem? (i := 814) (by decide +kernel)⟩
theorem lw_p56 : lw_okq (⟨"TeethForCoinsModel", "come", "(I)V"⟩, 48) := ⟨⟨by decide +kernel, by decide +kernel⟩, List.mem_of_getElem? (i := 625) (by decide +kernel), List.mem_of_getElem? (i := 821) (by decide +kernel), List.mem_of_getElem? (i := 822) (by decide +kernel)⟩
theorem lw_p57 : lw_okq (⟨"TeethForCoinsModel", "fakes", "()I"⟩, 48) := ⟨⟨by decide +kernel, by decide +kernel⟩, List.mem_of_getElem? (i := 625) (by decide +kernel), List.mem_of_getElem? (i := 829) (by decide +kernel), List.mem_of_getElem? (i := 830) (by decide +kernel)⟩
theorem lw_p58 : lw_okq (⟨"TeethForCoinsModel", "noTooth", "(I)Z"⟩, 48) := ⟨⟨by decide +kernel, by decide +kernel⟩, List.mem_of_getElem? (i := 625) (by decide +kernel), List.mem_of_getElem? (i := 837) (by decide +kernel), List.mem_of_getElem? (i := 838) (by decide +kernel)⟩
theorem lw_p59 : lw_okq (⟨"TeethForCoinsModel", "worth", "(I)I"⟩, 48) := ⟨⟨by decide +kernel, by decide +kernel⟩, List.mem_of_getElem? (i := 625) (by decide +kernel), List.mem_of_getElem? (i := 841) (by decide +kernel), List.mem_of_getElem? (i := 842) (by decide +kernel)⟩
theorem lw_p60 : lw_okq (⟨"TeethForCoinsModel", "worthBy", "(II)I"⟩, 48) := ⟨⟨by decide +kernel, by decide +kernel⟩, List.mem_of_getElem? (i := 625) (by decide +kernel), List.mem_of_getElem? (i := 845) (by decide +kernel), List.mem_of_getElem? (i := 846) (by decide +kernel)⟩
theorem lw_p61 : lw_okq (⟨"TeethForCoinsModel", "setOf", "(I)I"⟩, 48) := ⟨⟨by decide +kernel, by decide +kernel⟩, List.mem_of_getElem? (i := 625) (by decide +kernel), List.mem_of_getElem? (i := 861) (by decide +kernel), List.mem_of_getElem? (i := 862) (by decide +kernel)⟩
theorem lw_p62 : lw_okq (⟨"TeethForCoinsModel", "worthOf", "(I)I"⟩, 48) := ⟨⟨by decide +kernel, by decide +kernel⟩, List.mem_of_getElem? (i := 625) (by decide +kernel), List.mem_of_getElem? (i := 865) (by decide +kernel), List.mem_of_getElem? (i := 866) (by decide +kernel)⟩
theorem lw_p63 : lw_okq (⟨"TeethForCoinsModel", "goHandle", "(I)V"⟩, 48) := ⟨⟨by decide +kernel, by decide +kernel⟩, List.mem_of_getElem? (i := 625) (by decide +kernel), List.mem_of_getElem? (i := 876) (by decide +kernel), List.mem_of_getElem? (i := 877) (by decide +kernel)⟩
def lw_privs_4 : List (MethodName × Nat) := [(⟨"TeethForCoins$Rates", "copyFrom", "(LTeethForCoins$Rates;)V"⟩, 2), (⟨"TeethForCoins$Slot", "giveOut", "(LTeethForCoins$Teeth;LTeethForCoins$Bargains;LTeethForCoins$Rates;)V"⟩, 4), (⟨"TeethForCoinsModel", "readMarket", "()I"⟩, 48), (⟨"TeethForCoinsModel", "figure", "(II)I"⟩, 48), (⟨"TeethForCoinsModel", "readPart", "()Z"⟩, 48), (⟨"TeethForCoinsModel", "readTooth", "(Z)Z"⟩, 48), (⟨"TeethForCoinsModel", "side", "()I"⟩, 48), (⟨"TeethForCoinsModel", "readGood", "()Z"⟩, 48), (⟨"TeethForCoinsModel", "come", "(I)V"⟩, 48), (⟨"TeethForCoinsModel", "fakes", "()I"⟩, 48), (⟨"TeethForCoinsModel", "noTooth", "(I)Z"⟩, 48), (⟨"TeethForCoinsModel", "worth", "(I)I"⟩, 48), (⟨"TeethForCoinsModel", "worthBy", "(II)I"⟩, 48), (⟨"TeethForCoinsModel", "setOf", "(I)I"⟩, 48), (⟨"TeethForCoinsModel", "worthOf", "(I)I"⟩, 48), (⟨"TeethForCoinsModel", "goHandle", "(I)V"⟩, 48)]
theorem lw_r4 : ∀ q ∈ lw_privs_4, lw_okq q := List.forall_mem_cons.mpr ⟨lw_p48, List.forall_mem_cons.mpr ⟨lw_p49, List.forall_mem_cons.mpr ⟨lw_p50, List.forall_mem_cons.mpr ⟨lw_p51, List.forall_mem_cons.mpr ⟨lw_p52, List.forall_mem_cons.mpr ⟨lw_p53, List.forall_mem_cons.mpr ⟨lw_p54, List.forall_mem_cons.mpr ⟨lw_p55, List.forall_mem_cons.mpr ⟨lw_p56, List.forall_mem_cons.mpr ⟨lw_p57, List.forall_mem_cons.mpr ⟨lw_p58, List.forall_mem_cons.mpr ⟨lw_p59, List.forall_mem_cons.mpr ⟨lw_p60, List.forall_mem_cons.mpr ⟨lw_p61, List.forall_mem_cons.mpr ⟨lw_p62, List.forall_mem_cons.mpr ⟨lw_p63, fun _ h => absurd h List.not_mem_nil⟩⟩⟩⟩⟩⟩⟩⟩⟩⟩⟩⟩⟩⟩⟩⟩
theorem lw_p64 : lw_okq (⟨"TeethForCoinsModel", "findFewest", "(III)I"⟩, 48) := ⟨⟨by decide +kernel, by decide +kernel⟩, List.mem_of_getElem? (i := 625) (by decide +kernel), List.mem_of_getElem? (i := 892) (by decide +kernel), List.mem_of_getElem? (i := 893) (by decide +kernel)⟩
theorem lw_p65 : lw_okq (⟨"TeethForCoinsModel", "lay", "([II)V"⟩, 48) := ⟨⟨by decide +kernel, by decide +kernel⟩, List.mem_of_getElem? (i := 625) (by decide +kernel), List.mem_of_getElem? (i := 910) (by decide +kernel), List.mem_of_getElem? (i := 911) (by decide +kernel)⟩
theorem lw_p66 : lw_okq (⟨"TeethForCoinsModel", "goOver", "(II)V"⟩, 48) := ⟨⟨by decide +kernel, by decide +kernel⟩, List.mem_of_getElem? (i := 625) (by decide +kernel), List.mem_of_getElem? (i := 914) (by decide +kernel), List.mem_of_getElem? (i := 915) (by decide +kernel)⟩
theorem lw_p67 : lw_okq (⟨"TeethForCoinsModel", "take", "([II)V"⟩, 48) := ⟨⟨by decide +kernel, by decide +kernel⟩, List.mem_of_getElem? (i := 625) (by decide +kernel), List.mem_of_getElem? (i := 922) (by decide +kernel), List.mem_of_getElem? (i := 923) (by decide +kernel)⟩
theorem lw_p68 : lw_okq (⟨"TeethForCoinsModel", "findMuch", "(II)I"⟩, 48) := ⟨⟨by decide +kernel, by decide +kernel⟩, List.mem_of_getElem? (i := 625) (by decide +kernel), List.mem_of_getElem? (i := 930) (by decide +kernel), List.mem_of_getElem? (i := 931) (by decide +kernel)⟩
theorem lw_p69 : lw_okq (⟨"TeethForCoinsModel", "add", "(IJ)V"⟩, 48) := ⟨⟨by decide +kernel, by decide +kernel⟩, List.mem_of_getElem? (i := 625) (by decide +kernel), List.mem_of_getElem? (i := 951) (by decide +kernel), List.mem_of_getElem? (i := 952) (by decide +kernel)⟩
theorem lw_p70 : lw_okq (⟨"TeethForCoinsModel", "findRing", "()V"⟩, 48) := ⟨⟨by decide +kernel, by decide +kernel⟩, List.mem_of_getElem? (i := 625) (by decide +kernel), List.mem_of_getElem? (i := 1004) (by decide +kernel), List.mem_of_getElem? (i := 1005) (by decide +kernel)⟩
theorem lw_p71 : lw_okq (⟨"TeethForCoinsModel", "layRing", "(II)Z"⟩, 48) := ⟨⟨by decide +kernel, by decide +kernel⟩, List.mem_of_getElem? (i := 625) (by decide +kernel), List.mem_of_getElem? (i := 1008) (by decide +kernel), List.mem_of_getElem? (i := 1009) (by decide +kernel)⟩
theorem lw_p72 : lw_okq (⟨"TeethForCoinsModel", "stolenSet", "()I"⟩, 48) := ⟨⟨by decide +kernel, by decide +kernel⟩, List.mem_of_getElem? (i := 625) (by decide +kernel), List.mem_of_getElem? (i := 1024) (by decide +kernel), List.mem_of_getElem? (i := 1025) (by decide +kernel)⟩
def lw_privs_5 : List (MethodName × Nat) := [(⟨"TeethForCoinsModel", "findFewest", "(III)I"⟩, 48), (⟨"TeethForCoinsModel", "lay", "([II)V"⟩, 48), (⟨"TeethForCoinsModel", "goOver", "(II)V"⟩, 48), (⟨"TeethForCoinsModel", "take", "([II)V"⟩, 48), (⟨"TeethForCoinsModel", "findMuch", "(II)I"⟩, 48), (⟨"TeethForCoinsModel", "add", "(IJ)V"⟩, 48), (⟨"TeethForCoinsModel", "findRing", "()V"⟩, 48), (⟨"TeethForCoinsModel", "layRing", "(II)Z"⟩, 48), (⟨"TeethForCoinsModel", "stolenSet", "()I"⟩, 48)]
theorem lw_r5 : ∀ q ∈ lw_privs_5, lw_okq q := List.forall_mem_cons.mpr ⟨lw_p64, List.forall_mem_cons.mpr ⟨lw_p65, List.forall_mem_cons.mpr ⟨lw_p66, List.forall_mem_cons.mpr ⟨lw_p67, List.forall_mem_cons.mpr ⟨lw_p68, List.forall_mem_cons.mpr ⟨lw_p69, List.forall_mem_cons.mpr ⟨lw_p70, List.forall_mem_cons.mpr ⟨lw_p71, List.forall_mem_cons.mpr ⟨lw_p72, fun _ h => absurd h List.not_mem_nil⟩⟩⟩⟩⟩⟩⟩⟩⟩
def lw_privs : List (MethodName × Nat) := lw_privs_1 ++ (lw_privs_2 ++ (lw_privs_3 ++ (lw_privs_4 ++ (lw_privs_5))))
def lw_tbl : List Cond := k2_sels lw_privs ++ tables_1
theorem lw_privs_ok : ∀ q ∈ lw_privs, lw_okq q := by
  show ∀ q ∈ lw_privs_1 ++ (lw_privs_2 ++ (lw_privs_3 ++ (lw_privs_4 ++ (lw_privs_5)))), lw_okq q
  exact List.forall_mem_append.mpr ⟨lw_r1, List.forall_mem_append.mpr ⟨lw_r2, List.forall_mem_append.mpr ⟨lw_r3, List.forall_mem_append.mpr ⟨lw_r4, lw_r5⟩⟩⟩⟩
-- ===== end of PART A; then your names; then what follows =====
/-! ===== BEGIN printed: names, fields, word lists, decode rows ===== -/
def RX0 : String := "TeethForCoins$Bargains"
def TX0 : u_T := fun k => match k with
  | 0 => ("TeethForCoins$Bargains", "ahead", "[LTeethForCoins$Teeth;", true)
  | _ => ("TeethForCoins$Bargains", "made", "I", false)
def tyX0 : Nat → FieldType := fun k => match k with
  | 0 => .array (.object "TeethForCoins$Teeth")
  | _ => .int
abbrev wsX00 : List Cond := u_ws RX0 TX0 2
theorem nmX0 : ∀ a, a < 2 → ∀ b, b < 2 → a ≠ b → (TX0 a).2.1 ≠ (TX0 b).2.1 := by decide +kernel
theorem tyX0_ok : ∀ k, k < 2 → parseFieldDescriptor (TX0 k).2.2.1 = some (tyX0 k) := by decide +kernel
abbrev cX0_init : ByteArray := prog_2_method_1_code
def yX0_init : MethodName := ⟨RX0, "<init>", "()V"⟩
abbrev cX0_remember : ByteArray := prog_2_method_2_code
def yX0_remember : MethodName := ⟨RX0, "remember", "(LTeethForCoins$Teeth;)V"⟩
abbrev cX0_takeBack : ByteArray := prog_2_method_3_code
def yX0_takeBack : MethodName := ⟨RX0, "takeBack", "(LTeethForCoins$Teeth;)V"⟩
abbrev cX0_copyFrom : ByteArray := prog_2_method_4_code
def yX0_copyFrom : MethodName := ⟨RX0, "copyFrom", "(LTeethForCoins$Bargains;)V"⟩
def RX1 : String := "TeethForCoins$Goods"
def TX1 : u_T := fun k => match k with
  | 0 => ("TeethForCoins$Goods", "prices", "[I", true)
  | 1 => ("TeethForCoins$Goods", "uses", "[I", true)
  | _ => ("TeethForCoins$Goods", "count", "I", false)
def tyX1 : Nat → FieldType := fun k => match k with
  | 0 => .array .int
  | 1 => .array .int
  | _ => .int
abbrev wsX10 : List Cond := u_ws RX1 TX1 3
theorem nmX1 : ∀ a, a < 3 → ∀ b, b < 3 → a ≠ b → (TX1 a).2.1 ≠ (TX1 b).2.1 := by decide +kernel
theorem tyX1_ok : ∀ k, k < 3 → parseFieldDescriptor (TX1 k).2.2.1 = some (tyX1 k) := by decide +kernel
abbrev cX1_init : ByteArray := prog_3_method_1_code
def yX1_init : MethodName := ⟨RX1, "<init>", "()V"⟩
abbrev cX1_add : ByteArray := prog_3_method_2_code
def yX1_add : MethodName := ⟨RX1, "add", "(II)V"⟩
abbrev cX1_priceOf : ByteArray := prog_3_method_3_code
def yX1_priceOf : MethodName := ⟨RX1, "priceOf", "(I)I"⟩
abbrev cX1_useOf : ByteArray := prog_3_method_4_code
def yX1_useOf : MethodName := ⟨RX1, "useOf", "(I)I"⟩
abbrev cX1_priceOfSet : ByteArray := prog_3_method_5_code
def yX1_priceOfSet : MethodName := ⟨RX1, "priceOfSet", "(I)I"⟩
abbrev cX1_useOfSet : ByteArray := prog_3_method_6_code
def yX1_useOfSet : MethodName := ⟨RX1, "useOfSet", "(I)I"⟩
def RX2 : String := "TeethForCoins$Least"
def TX2 : u_T := fun k => match k with
  | 0 => ("TeethForCoins$Least", "found", "Z", false)
  | 1 => ("TeethForCoins$Least", "first", "I", false)
  | 2 => ("TeethForCoins$Least", "second", "I", false)
  | _ => ("TeethForCoins$Least", "third", "I", false)
def tyX2 : Nat → FieldType := fun k => match k with
  | 0 => .boolean
  | 1 => .int
  | 2 => .int
  | _ => .int
abbrev wsX20 : List Cond := u_ws RX2 TX2 4
theorem nmX2 : ∀ a, a < 4 → ∀ b, b < 4 → a ≠ b → (TX2 a).2.1 ≠ (TX2 b).2.1 := by decide +kernel
theorem tyX2_ok : ∀ k, k < 4 → parseFieldDescriptor (TX2 k).2.2.1 = some (tyX2 k) := by decide +kernel
abbrev cX2_init : ByteArray := prog_4_method_1_code
def yX2_init : MethodName := ⟨RX2, "<init>", "()V"⟩
abbrev cX2_clear : ByteArray := prog_4_method_2_code
def yX2_clear : MethodName := ⟨RX2, "clear", "()V"⟩
abbrev cX2_offer : ByteArray := prog_4_method_3_code
def yX2_offer : MethodName := ⟨RX2, "offer", "(III)V"⟩
def RX3 : String := "TeethForCoins$Rates"
def TX3 : u_T := fun k => match k with
  | 0 => ("TeethForCoins$Rates", "got", "[I", true)
  | _ => ("TeethForCoins$Rates", "given", "[I", true)
def tyX3 : Nat → FieldType := fun k => match k with
  | 0 => .array .int
  | _ => .array .int
abbrev wsX30 : List Cond := u_ws RX3 TX3 2
theorem nmX3 : ∀ a, a < 2 → ∀ b, b < 2 → a ≠ b → (TX3 a).2.1 ≠ (TX3 b).2.1 := by decide +kernel
theorem tyX3_ok : ∀ k, k < 2 → parseFieldDescriptor (TX3 k).2.2.1 = some (tyX3 k) := by decide +kernel
abbrev cX3_init : ByteArray := prog_5_method_1_code
def yX3_init : MethodName := ⟨RX3, "<init>", "()V"⟩
abbrev cX3_gotFor : ByteArray := prog_5_method_2_code
def yX3_gotFor : MethodName := ⟨RX3, "gotFor", "(II)I"⟩
abbrev cX3_givenFor : ByteArray := prog_5_method_3_code
def yX3_givenFor : MethodName := ⟨RX3, "givenFor", "(II)I"⟩
abbrev cX3_put : ByteArray := prog_5_method_4_code
def yX3_put : MethodName := ⟨RX3, "put", "(IIII)V"⟩
abbrev cX3_copyFrom : ByteArray := prog_5_method_5_code
def yX3_copyFrom : MethodName := ⟨RX3, "copyFrom", "(LTeethForCoins$Rates;)V"⟩
def RX4 : String := "TeethForCoins$Ring"
def TX4 : u_T := fun k => match k with
  | 0 => ("TeethForCoins$Ring", "code", "I", false)
  | 1 => ("TeethForCoins$Ring", "many", "I", false)
  | 2 => ("TeethForCoins$Ring", "got", "J", false)
  | _ => ("TeethForCoins$Ring", "given", "J", false)
def tyX4 : Nat → FieldType := fun k => match k with
  | 0 => .int
  | 1 => .int
  | 2 => .long
  | _ => .long
abbrev wsX40 : List Cond := u_ws RX4 TX4 4
theorem nmX4 : ∀ a, a < 4 → ∀ b, b < 4 → a ≠ b → (TX4 a).2.1 ≠ (TX4 b).2.1 := by decide +kernel
theorem tyX4_ok : ∀ k, k < 4 → parseFieldDescriptor (TX4 k).2.2.1 = some (tyX4 k) := by decide +kernel
abbrev cX4_init : ByteArray := prog_6_method_1_code
def yX4_init : MethodName := ⟨RX4, "<init>", "()V"⟩
abbrev cX4_clear : ByteArray := prog_6_method_2_code
def yX4_clear : MethodName := ⟨RX4, "clear", "()V"⟩
abbrev cX4_moneyAt : ByteArray := prog_6_method_3_code
def yX4_moneyAt : MethodName := ⟨RX4, "moneyAt", "(III)I"⟩
abbrev cX4_isRing : ByteArray := prog_6_method_4_code
def yX4_isRing : MethodName := ⟨RX4, "isRing", "(II)Z"⟩
abbrev cX4_offer : ByteArray := prog_6_method_5_code
def yX4_offer : MethodName := ⟨RX4, "offer", "(LTeethForCoins$Rates;II)V"⟩
def RX5 : String := "TeethForCoins$Slot"
def TX5 : u_T := fun k => match k with
  | 0 => ("TeethForCoins$Slot", "teeth", "LTeethForCoins$Teeth;", true)
  | 1 => ("TeethForCoins$Slot", "bargains", "LTeethForCoins$Bargains;", true)
  | 2 => ("TeethForCoins$Slot", "rates", "LTeethForCoins$Rates;", true)
  | _ => ("TeethForCoins$Slot", "full", "Z", false)
def tyX5 : Nat → FieldType := fun k => match k with
  | 0 => .object "TeethForCoins$Teeth"
  | 1 => .object "TeethForCoins$Bargains"
  | 2 => .object "TeethForCoins$Rates"
  | _ => .boolean
abbrev wsX50 : List Cond := u_ws RX5 TX5 4
theorem nmX5 : ∀ a, a < 4 → ∀ b, b < 4 → a ≠ b → (TX5 a).2.1 ≠ (TX5 b).2.1 := by decide +kernel
theorem tyX5_ok : ∀ k, k < 4 → parseFieldDescriptor (TX5 k).2.2.1 = some (tyX5 k) := by decide +kernel
abbrev cX5_init : ByteArray := prog_7_method_1_code
def yX5_init : MethodName := ⟨RX5, "<init>", "()V"⟩
abbrev cX5_takeIn : ByteArray := prog_7_method_2_code
def yX5_takeIn : MethodName := ⟨RX5, "takeIn", "(LTeethForCoins$Teeth;LTeethForCoins$Bargains;LTeethForCoins$Rates;)V"⟩
abbrev cX5_giveOut : ByteArray := prog_7_method_3_code
def yX5_giveOut : MethodName := ⟨RX5, "giveOut", "(LTeethForCoins$Teeth;LTeethForCoins$Bargains;LTeethForCoins$Rates;)V"⟩
def RX6 : String := "TeethForCoins$Teeth"
def TX6 : u_T := fun k => match k with
  | 0 => ("TeethForCoins$Teeth", "cells", "[I", true)
  | _ => ("TeethForCoins$Teeth", "count", "I", false)
def tyX6 : Nat → FieldType := fun k => match k with
  | 0 => .array .int
  | _ => .int
abbrev wsX60 : List Cond := u_ws RX6 TX6 2
theorem nmX6 : ∀ a, a < 2 → ∀ b, b < 2 → a ≠ b → (TX6 a).2.1 ≠ (TX6 b).2.1 := by decide +kernel
theorem tyX6_ok : ∀ k, k < 2 → parseFieldDescriptor (TX6 k).2.2.1 = some (tyX6 k) := by decide +kernel
abbrev cX6_init : ByteArray := prog_8_method_1_code
def yX6_init : MethodName := ⟨RX6, "<init>", "()V"⟩
abbrev cX6_get : ByteArray := prog_8_method_2_code
def yX6_get : MethodName := ⟨RX6, "get", "(II)I"⟩
abbrev cX6_set : ByteArray := prog_8_method_3_code
def yX6_set : MethodName := ⟨RX6, "set", "(III)V"⟩
abbrev cX6_add : ByteArray := prog_8_method_4_code
def yX6_add : MethodName := ⟨RX6, "add", "(IZI)I"⟩
abbrev cX6_passTo : ByteArray := prog_8_method_5_code
def yX6_passTo : MethodName := ⟨RX6, "passTo", "(II)V"⟩
abbrev cX6_traceOf : ByteArray := prog_8_method_6_code
def yX6_traceOf : MethodName := ⟨RX6, "traceOf", "(II)I"⟩
abbrev cX6_wearDown : ByteArray := prog_8_method_7_code
def yX6_wearDown : MethodName := ⟨RX6, "wearDown", "(I)V"⟩
abbrev cX6_ownedBy : ByteArray := prog_8_method_8_code
def yX6_ownedBy : MethodName := ⟨RX6, "ownedBy", "(I)I"⟩
abbrev cX6_fakes : ByteArray := prog_8_method_9_code
def yX6_fakes : MethodName := ⟨RX6, "fakes", "()I"⟩
abbrev cX6_wearTooMuch : ByteArray := prog_8_method_10_code
def yX6_wearTooMuch : MethodName := ⟨RX6, "wearTooMuch", "(I)I"⟩
abbrev cX6_wearTooMuchOf : ByteArray := prog_8_method_11_code
def yX6_wearTooMuchOf : MethodName := ⟨RX6, "wearTooMuchOf", "(I)I"⟩
abbrev cX6_copyFrom : ByteArray := prog_8_method_12_code
def yX6_copyFrom : MethodName := ⟨RX6, "copyFrom", "(LTeethForCoins$Teeth;)V"⟩
abbrev cX6_takeBack : ByteArray := prog_8_method_13_code
def yX6_takeBack : MethodName := ⟨RX6, "takeBack", "(LTeethForCoins$Teeth;)V"⟩
abbrev cX6_copyCells : ByteArray := prog_8_method_14_code
def yX6_copyCells : MethodName := ⟨RX6, "copyCells", "(LTeethForCoins$Teeth;II)V"⟩
def RX7 : String := "TeethForCoins$Text"
def TX7 : u_T := fun k => match k with
  | 0 => ("TeethForCoins$Text", "bytes", "[B", true)
  | _ => ("TeethForCoins$Text", "length", "I", false)
def tyX7 : Nat → FieldType := fun k => match k with
  | 0 => .array .byte
  | _ => .int
abbrev wsX70 : List Cond := u_ws RX7 TX7 2
theorem nmX7 : ∀ a, a < 2 → ∀ b, b < 2 → a ≠ b → (TX7 a).2.1 ≠ (TX7 b).2.1 := by decide +kernel
theorem tyX7_ok : ∀ k, k < 2 → parseFieldDescriptor (TX7 k).2.2.1 = some (tyX7 k) := by decide +kernel
abbrev cX7_init : ByteArray := prog_9_method_1_code
def yX7_init : MethodName := ⟨RX7, "<init>", "()V"⟩
abbrev cX7_append : ByteArray := prog_9_method_2_code
def yX7_append : MethodName := ⟨RX7, "append", "(B)V"⟩
abbrev cX7_byteAt : ByteArray := prog_9_method_3_code
def yX7_byteAt : MethodName := ⟨RX7, "byteAt", "(I)I"⟩
abbrev cX7_figureAt : ByteArray := prog_9_method_4_code
def yX7_figureAt : MethodName := ⟨RX7, "figureAt", "(I)I"⟩
abbrev cX7_tellsTooth : ByteArray := prog_9_method_5_code
def yX7_tellsTooth : MethodName := ⟨RX7, "tellsTooth", "(I)Z"⟩
abbrev cX7_partLength : ByteArray := prog_9_method_6_code
def yX7_partLength : MethodName := ⟨RX7, "partLength", "(I)I"⟩
abbrev cX7_faultPlace : ByteArray := prog_9_method_7_code
def yX7_faultPlace : MethodName := ⟨RX7, "faultPlace", "()I"⟩
abbrev cX7_mayBegin : ByteArray := prog_9_method_8_code
def yX7_mayBegin : MethodName := ⟨RX7, "mayBegin", "(III)Z"⟩
abbrev cX7_mayFollow : ByteArray := prog_9_method_9_code
def yX7_mayFollow : MethodName := ⟨RX7, "mayFollow", "(III)Z"⟩
def RX8 : String := "TeethForCoins"
def TX8 : u_T := fun k => match k with
  | 0 => ("TeethForCoins", "text", "LTeethForCoins$Text;", true)
  | 1 => ("TeethForCoins", "teeth", "LTeethForCoins$Teeth;", true)
  | 2 => ("TeethForCoins", "goods", "LTeethForCoins$Goods;", true)
  | 3 => ("TeethForCoins", "bargains", "LTeethForCoins$Bargains;", true)
  | 4 => ("TeethForCoins", "rates", "LTeethForCoins$Rates;", true)
  | 5 => ("TeethForCoins", "slots", "[LTeethForCoins$Slot;", true)
  | 6 => ("TeethForCoins", "lossByWear", "I", false)
  | 7 => ("TeethForCoins", "timesOfLeft", "I", false)
  | 8 => ("TeethForCoins", "least", "LTeethForCoins$Least;", true)
  | 9 => ("TeethForCoins", "best", "LTeethForCoins$Ring;", true)
  | 10 => ("TeethForCoins", "balances", "[I", true)
  | _ => ("TeethForCoins", "payable", "[I", true)
def tyX8 : Nat → FieldType := fun k => match k with
  | 0 => .object "TeethForCoins$Text"
  | 1 => .object "TeethForCoins$Teeth"
  | 2 => .object "TeethForCoins$Goods"
  | 3 => .object "TeethForCoins$Bargains"
  | 4 => .object "TeethForCoins$Rates"
  | 5 => .array (.object "TeethForCoins$Slot")
  | 6 => .int
  | 7 => .int
  | 8 => .object "TeethForCoins$Least"
  | 9 => .object "TeethForCoins$Ring"
  | 10 => .array .int
  | _ => .array .int
abbrev wsX80 : List Cond := u_ws RX8 TX8 12
theorem nmX8 : ∀ a, a < 12 → ∀ b, b < 12 → a ≠ b → (TX8 a).2.1 ≠ (TX8 b).2.1 := by decide +kernel
theorem tyX8_ok : ∀ k, k < 12 → parseFieldDescriptor (TX8 k).2.2.1 = some (tyX8 k) := by decide +kernel
abbrev cX8_init : ByteArray := prog_1_method_1_code
def yX8_init : MethodName := ⟨RX8, "<init>", "()V"⟩
abbrev cX8_write : ByteArray := prog_1_method_2_code
def yX8_write : MethodName := ⟨RX8, "write", "(IJ)I"⟩
abbrev cX8_wipe : ByteArray := prog_1_method_3_code
def yX8_wipe : MethodName := ⟨RX8, "wipe", "()I"⟩
abbrev cX8_fault : ByteArray := prog_1_method_4_code
def yX8_fault : MethodName := ⟨RX8, "fault", "()I"⟩
abbrev cX8_market : ByteArray := prog_1_method_5_code
def yX8_market : MethodName := ⟨RX8, "market", "()I"⟩
abbrev cX8_about : ByteArray := prog_1_method_6_code
def yX8_about : MethodName := ⟨RX8, "about", "(I)I"⟩
abbrev cX8_tooth : ByteArray := prog_1_method_7_code
def yX8_tooth : MethodName := ⟨RX8, "tooth", "(II)I"⟩
abbrev cX8_good : ByteArray := prog_1_method_8_code
def yX8_good : MethodName := ⟨RX8, "good", "(II)I"⟩
abbrev cX8_purse : ByteArray := prog_1_method_9_code
def yX8_purse : MethodName := ⟨RX8, "purse", "(I)I"⟩
abbrev cX8_handle : ByteArray := prog_1_method_10_code
def yX8_handle : MethodName := ⟨RX8, "handle", "(I)I"⟩
abbrev cX8_bite : ByteArray := prog_1_method_11_code
def yX8_bite : MethodName := ⟨RX8, "bite", "(I)I"⟩
abbrev cX8_fewest : ByteArray := prog_1_method_12_code
def yX8_fewest : MethodName := ⟨RX8, "fewest", "(III)I"⟩
abbrev cX8_paid : ByteArray := prog_1_method_13_code
def yX8_paid : MethodName := ⟨RX8, "paid", "(IIIZ)I"⟩
abbrev cX8_pay : ByteArray := prog_1_method_14_code
def yX8_pay : MethodName := ⟨RX8, "pay", "(III)I"⟩
abbrev cX8_undo : ByteArray := prog_1_method_15_code
def yX8_undo : MethodName := ⟨RX8, "undo", "()I"⟩
abbrev cX8_tooMuch : ByteArray := prog_1_method_16_code
def yX8_tooMuch : MethodName := ⟨RX8, "tooMuch", "(IIZ)I"⟩
abbrev cX8_sums : ByteArray := prog_1_method_17_code
def yX8_sums : MethodName := ⟨RX8, "sums", "(III)I"⟩
abbrev cX8_spent : ByteArray := prog_1_method_18_code
def yX8_spent : MethodName := ⟨RX8, "spent", "(IZ)I"⟩
abbrev cX8_caught : ByteArray := prog_1_method_19_code
def yX8_caught : MethodName := ⟨RX8, "caught", "(IJ)I"⟩
abbrev cX8_washed : ByteArray := prog_1_method_20_code
def yX8_washed : MethodName := ⟨RX8, "washed", "(IJ)I"⟩
abbrev cX8_life : ByteArray := prog_1_method_21_code
def yX8_life : MethodName := ⟨RX8, "life", "(II)I"⟩
abbrev cX8_trace : ByteArray := prog_1_method_22_code
def yX8_trace : MethodName := ⟨RX8, "trace", "(II)I"⟩
abbrev cX8_inflated : ByteArray := prog_1_method_23_code
def yX8_inflated : MethodName := ⟨RX8, "inflated", "(II)I"⟩
abbrev cX8_doubt : ByteArray := prog_1_method_24_code
def yX8_doubt : MethodName := ⟨RX8, "doubt", "(IIIIIZ)J"⟩
abbrev cX8_among : ByteArray := prog_1_method_25_code
def yX8_among : MethodName := ⟨RX8, "among", "(IIIZ)J"⟩
abbrev cX8_rate : ByteArray := prog_1_method_26_code
def yX8_rate : MethodName := ⟨RX8, "rate", "(IIII)I"⟩
abbrev cX8_ring : ByteArray := prog_1_method_27_code
def yX8_ring : MethodName := ⟨RX8, "ring", "(Z)J"⟩
abbrev cX8_ringAt : ByteArray := prog_1_method_28_code
def yX8_ringAt : MethodName := ⟨RX8, "ringAt", "(I)I"⟩
abbrev cX8_should : ByteArray := prog_1_method_29_code
def yX8_should : MethodName := ⟨RX8, "should", "(II)I"⟩
abbrev cX8_stolen : ByteArray := prog_1_method_30_code
def yX8_stolen : MethodName := ⟨RX8, "stolen", "()I"⟩
abbrev cX8_thief : ByteArray := prog_1_method_31_code
def yX8_thief : MethodName := ⟨RX8, "thief", "()I"⟩
abbrev cX8_keep : ByteArray := prog_1_method_32_code
def yX8_keep : MethodName := ⟨RX8, "keep", "(I)I"⟩
abbrev cX8_again : ByteArray := prog_1_method_33_code
def yX8_again : MethodName := ⟨RX8, "again", "(I)I"⟩
abbrev cX8_isTooth : ByteArray := prog_1_method_34_code
def yX8_isTooth : MethodName := ⟨RX8, "isTooth", "(I)Z"⟩
abbrev cX8_isGood : ByteArray := prog_1_method_35_code
def yX8_isGood : MethodName := ⟨RX8, "isGood", "(I)Z"⟩
abbrev cX8_isSlot : ByteArray := prog_1_method_36_code
def yX8_isSlot : MethodName := ⟨RX8, "isSlot", "(I)Z"⟩
abbrev cX8_isPerson : ByteArray := prog_1_method_37_code
def yX8_isPerson : MethodName := ⟨RX8, "isPerson", "(I)Z"⟩
abbrev cX8_isMoney : ByteArray := prog_1_method_38_code
def yX8_isMoney : MethodName := ⟨RX8, "isMoney", "(I)Z"⟩
abbrev cX8_isPrice : ByteArray := prog_1_method_39_code
def yX8_isPrice : MethodName := ⟨RX8, "isPrice", "(I)Z"⟩
abbrev cX8_isTenths : ByteArray := prog_1_method_40_code
def yX8_isTenths : MethodName := ⟨RX8, "isTenths", "(I)Z"⟩
abbrev cX8_paymentRefusal : ByteArray := prog_1_method_41_code
def yX8_paymentRefusal : MethodName := ⟨RX8, "paymentRefusal", "(III)I"⟩
abbrev cX8_readPart : ByteArray := prog_1_method_42_code
def yX8_readPart : MethodName := ⟨RX8, "readPart", "(I)V"⟩
abbrev cX8_worthWorn : ByteArray := prog_1_method_43_code
def yX8_worthWorn : MethodName := ⟨RX8, "worthWorn", "(II)I"⟩
abbrev cX8_worthOf : ByteArray := prog_1_method_44_code
def yX8_worthOf : MethodName := ⟨RX8, "worthOf", "(I)I"⟩
abbrev cX8_worthOfSet : ByteArray := prog_1_method_45_code
def yX8_worthOfSet : MethodName := ⟨RX8, "worthOfSet", "(I)I"⟩
abbrev cX8_setsOfTeeth : ByteArray := prog_1_method_46_code
def yX8_setsOfTeeth : MethodName := ⟨RX8, "setsOfTeeth", "()I"⟩
abbrev cX8_weighSets : ByteArray := prog_1_method_47_code
def yX8_weighSets : MethodName := ⟨RX8, "weighSets", "(I)V"⟩
abbrev cX8_seekFewest : ByteArray := prog_1_method_48_code
def yX8_seekFewest : MethodName := ⟨RX8, "seekFewest", "(III)V"⟩
abbrev cX8_seekTooMuch : ByteArray := prog_1_method_49_code
def yX8_seekTooMuch : MethodName := ⟨RX8, "seekTooMuch", "(II)V"⟩
abbrev cX8_handOver : ByteArray := prog_1_method_50_code
def yX8_handOver : MethodName := ⟨RX8, "handOver", "(II)V"⟩
abbrev cX8_drawFrom : ByteArray := prog_1_method_51_code
def yX8_drawFrom : MethodName := ⟨RX8, "drawFrom", "(J)J"⟩
abbrev cX8_addDrawn : ByteArray := prog_1_method_52_code
def yX8_addDrawn : MethodName := ⟨RX8, "addDrawn", "(IJ)V"⟩
abbrev cX8_power : ByteArray := prog_1_method_53_code
def yX8_power : MethodName := ⟨RX8, "power", "(JI)J"⟩
abbrev cX8_ofFraction : ByteArray := prog_1_method_54_code
def yX8_ofFraction : MethodName := ⟨RX8, "ofFraction", "(JJZ)J"⟩
abbrev cX8_commonDivisor : ByteArray := prog_1_method_55_code
def yX8_commonDivisor : MethodName := ⟨RX8, "commonDivisor", "(JJ)J"⟩
abbrev cX8_seekRing : ByteArray := prog_1_method_56_code
def yX8_seekRing : MethodName := ⟨RX8, "seekRing", "()V"⟩
def RX9 : String := "TeethForCoinsModel"
def TX9 : u_T := fun k => match k with
  | 0 => ("TeethForCoinsModel", "thrown", "I", false)
  | 1 => ("TeethForCoinsModel", "text", "[I", true)
  | 2 => ("TeethForCoinsModel", "textSize", "I", false)
  | 3 => ("TeethForCoinsModel", "place", "I", false)
  | 4 => ("TeethForCoinsModel", "loss", "I", false)
  | 5 => ("TeethForCoinsModel", "times", "I", false)
  | 6 => ("TeethForCoinsModel", "teeth", "I", false)
  | 7 => ("TeethForCoinsModel", "size", "[I", true)
  | 8 => ("TeethForCoinsModel", "left", "[Z", true)
  | 9 => ("TeethForCoinsModel", "wear", "[I", true)
  | 10 => ("TeethForCoinsModel", "owner", "[I", true)
  | 11 => ("TeethForCoinsModel", "fake", "[Z", true)
  | 12 => ("TeethForCoinsModel", "should", "[I", true)
  | 13 => ("TeethForCoinsModel", "traces", "[I", true)
  | 14 => ("TeethForCoinsModel", "trace", "[I", true)
  | 15 => ("TeethForCoinsModel", "goods", "I", false)
  | 16 => ("TeethForCoinsModel", "price", "[I", true)
  | 17 => ("TeethForCoinsModel", "use", "[I", true)
  | 18 => ("TeethForCoinsModel", "readLoss", "I", false)
  | 19 => ("TeethForCoinsModel", "readTimes", "I", false)
  | 20 => ("TeethForCoinsModel", "readTeeth", "I", false)
  | 21 => ("TeethForCoinsModel", "readGoods", "I", false)
  | 22 => ("TeethForCoinsModel", "readSize", "[I", true)
  | 23 => ("TeethForCoinsModel", "readLeft", "[Z", true)
  | 24 => ("TeethForCoinsModel", "readWear", "[I", true)
  | 25 => ("TeethForCoinsModel", "readOwner", "[I", true)
  | 26 => ("TeethForCoinsModel", "readFake", "[Z", true)
  | 27 => ("TeethForCoinsModel", "readPrice", "[I", true)
  | 28 => ("TeethForCoinsModel", "readUse", "[I", true)
  | 29 => ("TeethForCoinsModel", "book", "[I", true)
  | 30 => ("TeethForCoinsModel", "bargains", "I", false)
  | 31 => ("TeethForCoinsModel", "above", "[I", true)
  | 32 => ("TeethForCoinsModel", "below", "[I", true)
  | 33 => ("TeethForCoinsModel", "keptPage", "[I", true)
  | 34 => ("TeethForCoinsModel", "keptMore", "[I", true)
  | 35 => ("TeethForCoinsModel", "keptBook", "[I", true)
  | 36 => ("TeethForCoinsModel", "keptRates", "[I", true)
  | 37 => ("TeethForCoinsModel", "isKept", "[Z", true)
  | 38 => ("TeethForCoinsModel", "keptBargains", "[I", true)
  | 39 => ("TeethForCoinsModel", "paidSet", "I", false)
  | 40 => ("TeethForCoinsModel", "changeSet", "I", false)
  | 41 => ("TeethForCoinsModel", "bestSet", "I", false)
  | 42 => ("TeethForCoinsModel", "ring", "[I", true)
  | 43 => ("TeethForCoinsModel", "tried", "[I", true)
  | 44 => ("TeethForCoinsModel", "ringMany", "I", false)
  | 45 => ("TeethForCoinsModel", "ringUp", "J", false)
  | 46 => ("TeethForCoinsModel", "ringDown", "J", false)
  | _ => ("TeethForCoinsModel", "can", "[Z", true)
def tyX9 : Nat → FieldType := fun k => match k with
  | 0 => .int
  | 1 => .array .int
  | 2 => .int
  | 3 => .int
  | 4 => .int
  | 5 => .int
  | 6 => .int
  | 7 => .array .int
  | 8 => .array .boolean
  | 9 => .array .int
  | 10 => .array .int
  | 11 => .array .boolean
  | 12 => .array .int
  | 13 => .array .int
  | 14 => .array .int
  | 15 => .int
  | 16 => .array .int
  | 17 => .array .int
  | 18 => .int
  | 19 => .int
  | 20 => .int
  | 21 => .int
  | 22 => .array .int
  | 23 => .array .boolean
  | 24 => .array .int
  | 25 => .array .int
  | 26 => .array .boolean
  | 27 => .array .int
  | 28 => .array .int
  | 29 => .array .int
  | 30 => .int
  | 31 => .array .int
  | 32 => .array .int
  | 33 => .array .int
  | 34 => .array .int
  | 35 => .array .int
  | 36 => .array .int
  | 37 => .array .boolean
  | 38 => .array .int
  | 39 => .int
  | 40 => .int
  | 41 => .int
  | 42 => .array .int
  | 43 => .array .int
  | 44 => .int
  | 45 => .long
  | 46 => .long
  | _ => .array .boolean
abbrev wsX90 : List Cond := u_ws RX9 TX9 48
theorem nmX9 : ∀ a, a < 48 → ∀ b, b < 48 → a ≠ b → (TX9 a).2.1 ≠ (TX9 b).2.1 := by decide +kernel
theorem tyX9_ok : ∀ k, k < 48 → parseFieldDescriptor (TX9 k).2.2.1 = some (tyX9 k) := by decide +kernel
abbrev cX9_init : ByteArray := prog_11_method_1_code
def yX9_init : MethodName := ⟨RX9, "<init>", "()V"⟩
abbrev cX9_in : ByteArray := prog_11_method_3_code
def yX9_in : MethodName := ⟨RX9, "in", "(JJJ)Z"⟩
abbrev cX9_has : ByteArray := prog_11_method_4_code
def yX9_has : MethodName := ⟨RX9, "has", "(II)Z"⟩
abbrev cX9_many : ByteArray := prog_11_method_5_code
def yX9_many : MethodName := ⟨RX9, "many", "(I)I"⟩
abbrev cX9_noTooth : ByteArray := prog_11_method_6_code
def yX9_noTooth : MethodName := ⟨RX9, "noTooth", "(I)Z"⟩
abbrev cX9_noOne : ByteArray := prog_11_method_7_code
def yX9_noOne : MethodName := ⟨RX9, "noOne", "(I)Z"⟩
abbrev cX9_write : ByteArray := prog_11_method_8_code
def yX9_write : MethodName := ⟨RX9, "write", "(IJ)I"⟩
abbrev cX9_wipe : ByteArray := prog_11_method_9_code
def yX9_wipe : MethodName := ⟨RX9, "wipe", "()I"⟩
abbrev cX9_figure : ByteArray := prog_11_method_10_code
def yX9_figure : MethodName := ⟨RX9, "figure", "(II)I"⟩
abbrev cX9_side : ByteArray := prog_11_method_11_code
def yX9_side : MethodName := ⟨RX9, "side", "()I"⟩
abbrev cX9_readTooth : ByteArray := prog_11_method_12_code
def yX9_readTooth : MethodName := ⟨RX9, "readTooth", "(Z)Z"⟩
abbrev cX9_readGood : ByteArray := prog_11_method_13_code
def yX9_readGood : MethodName := ⟨RX9, "readGood", "()Z"⟩
abbrev cX9_readPart : ByteArray := prog_11_method_14_code
def yX9_readPart : MethodName := ⟨RX9, "readPart", "()Z"⟩
abbrev cX9_readMarket : ByteArray := prog_11_method_15_code
def yX9_readMarket : MethodName := ⟨RX9, "readMarket", "()I"⟩
abbrev cX9_fault : ByteArray := prog_11_method_16_code
def yX9_fault : MethodName := ⟨RX9, "fault", "()I"⟩
abbrev cX9_come : ByteArray := prog_11_method_17_code
def yX9_come : MethodName := ⟨RX9, "come", "(I)V"⟩
abbrev cX9_market : ByteArray := prog_11_method_18_code
def yX9_market : MethodName := ⟨RX9, "market", "()I"⟩
abbrev cX9_fakes : ByteArray := prog_11_method_19_code
def yX9_fakes : MethodName := ⟨RX9, "fakes", "()I"⟩
abbrev cX9_about : ByteArray := prog_11_method_20_code
def yX9_about : MethodName := ⟨RX9, "about", "(I)I"⟩
abbrev cX9_worthBy : ByteArray := prog_11_method_21_code
def yX9_worthBy : MethodName := ⟨RX9, "worthBy", "(II)I"⟩
abbrev cX9_worth : ByteArray := prog_11_method_22_code
def yX9_worth : MethodName := ⟨RX9, "worth", "(I)I"⟩
abbrev cX9_tooth : ByteArray := prog_11_method_23_code
def yX9_tooth : MethodName := ⟨RX9, "tooth", "(II)I"⟩
abbrev cX9_good : ByteArray := prog_11_method_24_code
def yX9_good : MethodName := ⟨RX9, "good", "(II)I"⟩
abbrev cX9_setOf : ByteArray := prog_11_method_25_code
def yX9_setOf : MethodName := ⟨RX9, "setOf", "(I)I"⟩
abbrev cX9_worthOf : ByteArray := prog_11_method_26_code
def yX9_worthOf : MethodName := ⟨RX9, "worthOf", "(I)I"⟩
abbrev cX9_purse : ByteArray := prog_11_method_27_code
def yX9_purse : MethodName := ⟨RX9, "purse", "(I)I"⟩
abbrev cX9_goHandle : ByteArray := prog_11_method_28_code
def yX9_goHandle : MethodName := ⟨RX9, "goHandle", "(I)V"⟩
abbrev cX9_handle : ByteArray := prog_11_method_29_code
def yX9_handle : MethodName := ⟨RX9, "handle", "(I)I"⟩
abbrev cX9_bite : ByteArray := prog_11_method_30_code
def yX9_bite : MethodName := ⟨RX9, "bite", "(I)I"⟩
abbrev cX9_next : ByteArray := prog_11_method_31_code
def yX9_next : MethodName := ⟨RX9, "next", "(II)I"⟩
abbrev cX9_findFewest : ByteArray := prog_11_method_32_code
def yX9_findFewest : MethodName := ⟨RX9, "findFewest", "(III)I"⟩
abbrev cX9_noPay : ByteArray := prog_11_method_33_code
def yX9_noPay : MethodName := ⟨RX9, "noPay", "(III)I"⟩
abbrev cX9_fewest : ByteArray := prog_11_method_34_code
def yX9_fewest : MethodName := ⟨RX9, "fewest", "(III)I"⟩
abbrev cX9_paid : ByteArray := prog_11_method_35_code
def yX9_paid : MethodName := ⟨RX9, "paid", "(IIIZ)I"⟩
abbrev cX9_lay : ByteArray := prog_11_method_36_code
def yX9_lay : MethodName := ⟨RX9, "lay", "([II)V"⟩
abbrev cX9_take : ByteArray := prog_11_method_37_code
def yX9_take : MethodName := ⟨RX9, "take", "([II)V"⟩
abbrev cX9_goOver : ByteArray := prog_11_method_38_code
def yX9_goOver : MethodName := ⟨RX9, "goOver", "(II)V"⟩
abbrev cX9_pay : ByteArray := prog_11_method_39_code
def yX9_pay : MethodName := ⟨RX9, "pay", "(III)I"⟩
abbrev cX9_undo : ByteArray := prog_11_method_40_code
def yX9_undo : MethodName := ⟨RX9, "undo", "()I"⟩
abbrev cX9_findMuch : ByteArray := prog_11_method_41_code
def yX9_findMuch : MethodName := ⟨RX9, "findMuch", "(II)I"⟩
abbrev cX9_tooMuch : ByteArray := prog_11_method_42_code
def yX9_tooMuch : MethodName := ⟨RX9, "tooMuch", "(IIZ)I"⟩
abbrev cX9_sums : ByteArray := prog_11_method_43_code
def yX9_sums : MethodName := ⟨RX9, "sums", "(III)I"⟩
abbrev cX9_spent : ByteArray := prog_11_method_44_code
def yX9_spent : MethodName := ⟨RX9, "spent", "(IZ)I"⟩
abbrev cX9_add : ByteArray := prog_11_method_45_code
def yX9_add : MethodName := ⟨RX9, "add", "(IJ)V"⟩
abbrev cX9_draw : ByteArray := prog_11_method_46_code
def yX9_draw : MethodName := ⟨RX9, "draw", "(J)J"⟩
abbrev cX9_caught : ByteArray := prog_11_method_47_code
def yX9_caught : MethodName := ⟨RX9, "caught", "(IJ)I"⟩
abbrev cX9_washed : ByteArray := prog_11_method_48_code
def yX9_washed : MethodName := ⟨RX9, "washed", "(IJ)I"⟩
abbrev cX9_life : ByteArray := prog_11_method_49_code
def yX9_life : MethodName := ⟨RX9, "life", "(II)I"⟩
abbrev cX9_trace : ByteArray := prog_11_method_50_code
def yX9_trace : MethodName := ⟨RX9, "trace", "(II)I"⟩
abbrev cX9_inflated : ByteArray := prog_11_method_51_code
def yX9_inflated : MethodName := ⟨RX9, "inflated", "(II)I"⟩
abbrev cX9_told : ByteArray := prog_11_method_52_code
def yX9_told : MethodName := ⟨RX9, "told", "(JJZ)J"⟩
abbrev cX9_power : ByteArray := prog_11_method_53_code
def yX9_power : MethodName := ⟨RX9, "power", "(JI)J"⟩
abbrev cX9_noTenths : ByteArray := prog_11_method_54_code
def yX9_noTenths : MethodName := ⟨RX9, "noTenths", "(I)Z"⟩
abbrev cX9_doubt : ByteArray := prog_11_method_55_code
def yX9_doubt : MethodName := ⟨RX9, "doubt", "(IIIIIZ)J"⟩
abbrev cX9_among : ByteArray := prog_11_method_56_code
def yX9_among : MethodName := ⟨RX9, "among", "(IIIZ)J"⟩
abbrev cX9_rate : ByteArray := prog_11_method_57_code
def yX9_rate : MethodName := ⟨RX9, "rate", "(IIII)I"⟩
abbrev cX9_layRing : ByteArray := prog_11_method_58_code
def yX9_layRing : MethodName := ⟨RX9, "layRing", "(II)Z"⟩
abbrev cX9_findRing : ByteArray := prog_11_method_59_code
def yX9_findRing : MethodName := ⟨RX9, "findRing", "()V"⟩
abbrev cX9_ring : ByteArray := prog_11_method_60_code
def yX9_ring : MethodName := ⟨RX9, "ring", "(Z)J"⟩
abbrev cX9_ringAt : ByteArray := prog_11_method_61_code
def yX9_ringAt : MethodName := ⟨RX9, "ringAt", "(I)I"⟩
abbrev cX9_should : ByteArray := prog_11_method_62_code
def yX9_should : MethodName := ⟨RX9, "should", "(II)I"⟩
abbrev cX9_stolenSet : ByteArray := prog_11_method_63_code
def yX9_stolenSet : MethodName := ⟨RX9, "stolenSet", "()I"⟩
abbrev cX9_stolen : ByteArray := prog_11_method_64_code
def yX9_stolen : MethodName := ⟨RX9, "stolen", "()I"⟩
abbrev cX9_thief : ByteArray := prog_11_method_65_code
def yX9_thief : MethodName := ⟨RX9, "thief", "()I"⟩
abbrev cX9_keep : ByteArray := prog_11_method_66_code
def yX9_keep : MethodName := ⟨RX9, "keep", "(I)I"⟩
abbrev cX9_again : ByteArray := prog_11_method_67_code
def yX9_again : MethodName := ⟨RX9, "again", "(I)I"⟩
def RJ6 : String := "java/lang/Integer"
def TJ6 : u_T := fun k => match k with
  | _ => ("", "", "", false)
def tyJ6 : Nat → FieldType := fun k => match k with
  | _ => .int
abbrev wsJ60 : List Cond := u_ws RJ6 TJ6 0
theorem nmJ6 : ∀ a, a < 0 → ∀ b, b < 0 → a ≠ b → (TJ6 a).2.1 ≠ (TJ6 b).2.1 := by decide +kernel
theorem tyJ6_ok : ∀ k, k < 0 → parseFieldDescriptor (TJ6 k).2.2.1 = some (tyJ6 k) := by decide +kernel
abbrev cJ6_bitCount_0f7a4 : ByteArray := prog_12_method_49_code
def yJ6_bitCount_0f7a4 : MethodName := ⟨RJ6, "bitCount", "(I)I"⟩
def RJ9 : String := "java/lang/Math"
def TJ9 : u_T := fun k => match k with
  | _ => ("", "", "", false)
def tyJ9 : Nat → FieldType := fun k => match k with
  | _ => .int
abbrev wsJ90 : List Cond := u_ws RJ9 TJ9 0
theorem nmJ9 : ∀ a, a < 0 → ∀ b, b < 0 → a ≠ b → (TJ9 a).2.1 ≠ (TJ9 b).2.1 := by decide +kernel
theorem tyJ9_ok : ∀ k, k < 0 → parseFieldDescriptor (TJ9 k).2.2.1 = some (tyJ9 k) := by decide +kernel
abbrev cJ9_max_7cf53 : ByteArray := prog_13_method_65_code
def yJ9_max_7cf53 : MethodName := ⟨RJ9, "max", "(II)I"⟩
abbrev cJ9_min_7cf53 : ByteArray := prog_13_method_69_code
def yJ9_min_7cf53 : MethodName := ⟨RJ9, "min", "(II)I"⟩
def RJ10 : String := "java/lang/System"
def TJ10 : u_T := fun k => match k with
  | _ => ("", "", "", false)
def tyJ10 : Nat → FieldType := fun k => match k with
  | _ => .int
abbrev wsJ100 : List Cond := u_ws RJ10 TJ10 0
theorem nmJ10 : ∀ a, a < 0 → ∀ b, b < 0 → a ≠ b → (TJ10 a).2.1 ≠ (TJ10 b).2.1 := by decide +kernel
theorem tyJ10_ok : ∀ k, k < 0 → parseFieldDescriptor (TJ10 k).2.2.1 = some (tyJ10 k) := by decide +kernel
def RJ7 : String := "java/util/Arrays"
def TJ7 : u_T := fun k => match k with
  | _ => ("", "", "", false)
def tyJ7 : Nat → FieldType := fun k => match k with
  | _ => .int
abbrev wsJ70 : List Cond := u_ws RJ7 TJ7 0
theorem nmJ7 : ∀ a, a < 0 → ∀ b, b < 0 → a ≠ b → (TJ7 a).2.1 ≠ (TJ7 b).2.1 := by decide +kernel
theorem tyJ7_ok : ∀ k, k < 0 → parseFieldDescriptor (TJ7 k).2.2.1 = some (tyJ7 k) := by decide +kernel
abbrev cJ7_fill_53178 : ByteArray := prog_15_method_103_code
def yJ7_fill_53178 : MethodName := ⟨RJ7, "fill", "([II)V"⟩
def RL : String := "TeethForCoinsLaw"
abbrev cL_law : ByteArray := code
def yL_law : MethodName := ⟨RL, "law", "([I)Z"⟩
abbrev vwCl : List vw_C := [(RX0, TX0, 2), (RX1, TX1, 3), (RX2, TX2, 4), (RX3, TX3, 2), (RX4, TX4, 4), (RX5, TX5, 4), (RX6, TX6, 2), (RX7, TX7, 2), (RX8, TX8, 12), (RX9, TX9, 48)]
end
section
/-! ===== the small logic: values, memory, the world's fixed shape ===== -/
abbrev AV : Type := Int ⊕ (Int ⊕ Nat)
abbrev vi (z : Int) : AV := .inl z
abbrev vl (z : Int) : AV := .inr (.inl z)
abbrev vr (o : Nat) : AV := .inr (.inr o)
abbrev Mem : Type := Nat → Nat → Int
abbrev Scr : Type := Nat × (Nat → Int)
abbrev inI (z : Int) : Prop := -2147483648 ≤ z ∧ z ≤ 2147483647
abbrev inL (z : Int) : Prop := -9223372036854775808 ≤ z ∧ z ≤ 9223372036854775807
abbrev tyS : FieldType := .object "TeethForCoins$Slot"
abbrev tyT : FieldType := .object "TeethForCoins$Teeth"
abbrev Kd : Type := Nat ⊕ (FieldType × Nat)
/-- what kind of cell a number stands for: an object of a class (its place in vwCl), or an array -/
def kdT (o : Nat) : Option Kd := match o with
  | 0 => some (.inl 8)
  | 1 => some (.inl 7)
  | 2 => some (.inr (.byte, 72))
  | 3 => some (.inl 1)
  | 4 => some (.inr (.int, 4))
  | 5 => some (.inr (.int, 4))
  | 10 => some (.inl 3)
  | 11 => some (.inr (.int, 16))
  | 12 => some (.inr (.int, 16))
  | 13 => some (.inl 3)
  | 14 => some (.inr (.int, 16))
  | 15 => some (.inr (.int, 16))
  | 16 => some (.inl 3)
  | 17 => some (.inr (.int, 16))
  | 18 => some (.inr (.int, 16))
  | 20 => some (.inl 0)
  | 21 => some (.inr (tyT, 8))
  | 22 => some (.inl 0)
  | 23 => some (.inr (tyT, 8))
  | 24 => some (.inl 0)
  | 25 => some (.inr (tyT, 8))
  | 30 => some (.inr (tyS, 2))
  | 31 => some (.inl 5)
  | 32 => some (.inl 5)
  | 33 => some (.inl 2)
  | 34 => some (.inl 4)
  | 35 => some (.inr (.int, 1024))
  | 36 => some (.inr (.int, 1000))
  | 200 => some (.inl 9)
  | 301 => some (.inr (.int, 72))
  | 307 => some (.inr (.int, 10))
  | 308 => some (.inr (.boolean, 10))
  | 309 => some (.inr (.int, 10))
  | 310 => some (.inr (.int, 10))
  | 311 => some (.inr (.boolean, 10))
  | 312 => some (.inr (.int, 10))
  | 313 => some (.inr (.int, 10))
  | 314 => some (.inr (.int, 80))
  | 316 => some (.inr (.int, 4))
  | 317 => some (.inr (.int, 4))
  | 322 => some (.inr (.int, 10))
  | 323 => some (.inr (.boolean, 10))
  | 324 => some (.inr (.int, 10))
  | 325 => some (.inr (.int, 10))
  | 326 => some (.inr (.boolean, 10))
  | 327 => some (.inr (.int, 4))
  | 328 => some (.inr (.int, 4))
  | 329 => some (.inr (.int, 968))
  | 331 => some (.inr (.int, 16))
  | 332 => some (.inr (.int, 16))
  | 333 => some (.inr (.int, 242))
  | 334 => some (.inr (.int, 60))
  | 335 => some (.inr (.int, 1936))
  | 336 => some (.inr (.int, 64))
  | 337 => some (.inr (.boolean, 2))
  | 338 => some (.inr (.int, 2))
  | 342 => some (.inr (.int, 4))
  | 343 => some (.inr (.int, 4))
  | 347 => some (.inr (.boolean, 1000))
  | _ => none
def kd (o : Nat) : Option Kd := if 100 ≤ o ∧ o < 154 then (if o % 2 = 0 then some (.inl 6) else some (.inr (.int, 150))) else kdT o
/-- the references, which never change once all is made -/
def rfT (o j : Nat) : Option Nat := match o, j with
  | 0, 0 => some 1
  | 0, 1 => some 100
  | 0, 2 => some 3
  | 0, 3 => some 20
  | 0, 4 => some 10
  | 0, 5 => some 30
  | 0, 8 => some 33
  | 0, 9 => some 34
  | 0, 10 => some 35
  | 0, 11 => some 36
  | 1, 0 => some 2
  | 3, 0 => some 4
  | 3, 1 => some 5
  | 10, 0 => some 11
  | 10, 1 => some 12
  | 13, 0 => some 14
  | 13, 1 => some 15
  | 16, 0 => some 17
  | 16, 1 => some 18
  | 20, 0 => some 21
  | 22, 0 => some 23
  | 24, 0 => some 25
  | 21, i => if i < 8 then some (102 + 2 * i) else none
  | 23, i => if i < 8 then some (120 + 2 * i) else none
  | 25, i => if i < 8 then some (138 + 2 * i) else none
  | 30, 0 => some 31
  | 30, 1 => some 32
  | 31, 0 => some 118
  | 31, 1 => some 22
  | 31, 2 => some 13
  | 32, 0 => some 136
  | 32, 1 => some 24
  | 32, 2 => some 16
  | 200, i => some (300 + i)
  | _, _ => none
def rfs (o j : Nat) : Option Nat := if 100 ≤ o ∧ o < 154 then (if o % 2 = 0 ∧ j = 0 then some (o + 1) else none) else rfT o j
def nFd (ci : Nat) : Nat := match vwCl[ci]? with
  | some q => q.2.2
  | none => 0
/-- the types of a class's fields -/
def ftC (ci : Nat) : Nat → FieldType := match ci with
  | 0 => tyX0
  | 1 => tyX1
  | 2 => tyX2
  | 3 => tyX3
  | 4 => tyX4
  | 5 => tyX5
  | 6 => tyX6
  | 7 => tyX7
  | 8 => tyX8
  | _ => tyX9
/-- the type of a slot -/
def sty (o j : Nat) : FieldType := match kd o with
  | some (.inl ci) => ftC ci j
  | some (.inr (ty, _)) => ty
  | none => .int
def inT (ty : FieldType) (z : Int) : Prop := match ty with
  | .long => inL z
  | .boolean => 0 ≤ z ∧ z ≤ 1
  | .byte => -128 ≤ z ∧ z ≤ 127
  | _ => inI z
def wfM (M : Mem) : Prop := ∀ o j, inT (sty o j) (M o j)
def wfV (v : AV) : Prop := match v with
  | .inl z => inI z
  | .inr (.inl z) => inL z
  | .inr (.inr _) => True
def wfS (st : List AV) : Prop := ∀ v ∈ st, wfV v
def wfL (loc : List (Nat × AV)) : Prop := ∀ q ∈ loc, wfV q.2
/-- a value as the machine has it -/
def cV (ad : Nat → Nat) (v : AV) : Value := match v with
  | .inl z => .int (Int32.ofInt z)
  | .inr (.inl z) => .long (Int64.ofInt z)
  | .inr (.inr o) => .ref (ad o)
def cL (ad : Nat → Nat) (loc : List (Nat × AV)) : List (Nat × Value) := loc.map (fun q => (q.1, cV ad q.2))
/-- a slot as the machine has it -/
def cS (ad : Nat → Nat) (ty : FieldType) (r : Option Nat) (z : Int) : Value := match ty with
  | .long => .long (Int64.ofInt z)
  | .object _ => va_rf (r.map ad)
  | .array _ => va_rf (r.map ad)
  | _ => .int (Int32.ofInt z)
def fdV (ad : Nat → Nat) (M : Mem) (o ci : Nat) : List Value := (List.range (nFd ci)).map (fun j => cS ad (ftC ci j) (rfs o j) (M o j))
def arP (ad : Nat → Nat) (M : Mem) (o : Nat) (ty : FieldType) : (Nat → Int32) ⊕ (Nat → Int64) ⊕ (Nat → UInt32) ⊕ (Nat → UInt64) ⊕ (Nat → Option Nat) := match ty with
  | .object _ => .inr (.inr (.inr (.inr (fun j => (rfs o j).map ad))))
  | _ => .inl (fun j => Int32.ofInt (M o j))
def ent (cA : FieldType → ClassId) (ad : Nat → Nat) (M : Mem) (o : Nat) : va_E := match kd o with
  | some (.inl ci) => .inr (ci, fdV ad M o ci)
  | some (.inr (ty, n)) => .inl (cA ty, n, arP ad M o ty)
  | none => .inr (0, [])
def CO : List Nat := (List.range 400).filter (fun o => (kd o).isSome)
def wsO (cA : FieldType → ClassId) (ad : Nat → Nat) (M : Mem) : va_W := CO.map (fun o => (ad o, ent cA ad M o))
def tysO (cA : FieldType → ClassId) : List (ClassId × FieldType) := [(cA .byte, .byte), (cA .int, .int), (cA .boolean, .boolean), (cA tyS, tyS), (cA tyT, tyT)]
def up2 (M : Mem) (o j : Nat) (z : Int) : Mem := fun o' j' => if o' = o ∧ j' = j then z else M o' j'
theorem up2_s (M : Mem) (o j : Nat) (z : Int) : up2 M o j z o j = z := by simp [up2]
theorem kd_lt {o : Nat} {k : Kd} (h : kd o = some k) : o < 400 := by
  rcases Nat.lt_or_ge o 400 with h1 | h1
  · exact h1
  · exfalso
    unfold kd at h
    rw [if_neg (by omega)] at h
    unfold kdT at h
    split at h <;> first | omega | cases h
theorem mem_CO {o : Nat} {k : Kd} (h : kd o = some k) : o ∈ CO := by
  unfold CO
  rw [List.mem_filter, List.mem_range]
  exact ⟨kd_lt h, by rw [h]; rfl⟩
theorem at_CO {o : Nat} {k : Kd} (h : kd o = some k) : ∃ i : Nat, CO[i]? = some o := List.getElem?_of_mem (mem_CO h)
theorem at_wsO {cA : FieldType → ClassId} {ad : Nat → Nat} {M : Mem} {o i : Nat} (h : CO[i]? = some o) : (wsO cA ad M)[i]? = some (ad o, ent cA ad M o) := by
  unfold wsO
  rw [List.getElem?_map, h]
  rfl
theorem nd_CO : va_nd CO = true := by decide +kernel
theorem ent_ne {cA : FieldType → ClassId} {ad : Nat → Nat} {M M' : Mem} {o : Nat} (h : ∀ j, M' o j = M o j) : ent cA ad M' o = ent cA ad M o := by
  have e : M' o = M o := funext h
  unfold ent fdV arP
  simp only [e]
/-- one cell's entry changed: the world of the changed memory -/
theorem set_wsO {cA : FieldType → ClassId} {ad : Nat → Nat} {M M' : Mem} {o i : Nat} (h : CO[i]? = some o) (hne : ∀ o', o' ≠ o → ∀ j, M' o' j = M o' j) : (wsO cA ad M).set i (ad o, ent cA ad M' o) = wsO cA ad M' := by
  apply List.ext_getElem?
  intro k
  have hl : i < CO.length := (List.getElem?_eq_some_iff.mp h).1
  have hl2 : i < (wsO cA ad M).length := by unfold wsO; rw [List.length_map]; exact hl
  by_cases hk : k = i
  · subst hk
    rw [List.getElem?_set_self hl2, at_wsO h]
  · rw [List.getElem?_set_ne (Ne.symm hk)]
    unfold wsO
    rw [List.getElem?_map, List.getElem?_map]
    cases hq : CO[k]? with
    | none => rfl
    | some o' =>
      have hne' : o' ≠ o := fun e => hk (va_nd_inj CO nd_CO k i o (by rw [hq, e]) h)
      simp only [Option.map_some]
      rw [ent_ne (M := M) (M' := M') (hne o' hne')]
theorem D_wsO {A : Nat → Prop} {cA : FieldType → ClassId} {ad : Nat → Nat} {M : Mem} (M' : Mem) (h : va_D A (wsO cA ad M)) : va_D A (wsO cA ad M') := by
  have key : ∀ (i : Nat) (q : Nat × va_E), (wsO cA ad M')[i]? = some q → ∃ q', (wsO cA ad M)[i]? = some q' ∧ q'.1 = q.1 := by
    intro i q hq
    unfold wsO at hq ⊢
    rw [List.getElem?_map] at hq
    rw [List.getElem?_map]
    cases ho : CO[i]? with
    | none => rw [ho] at hq; cases hq
    | some o =>
      rw [ho] at hq
      cases hq
      exact ⟨_, rfl, rfl⟩
  refine ⟨fun i j p q hi hj he => ?_, fun k q hk => ?_⟩
  · obtain ⟨p', h1, h2⟩ := key i p hi
    obtain ⟨q', h3, h4⟩ := key j q hj
    exact h.1 i j p' q' h1 h3 (by rw [h2, h4, he])
  · obtain ⟨q', h1, h2⟩ := key k q hk
    rw [← h2]
    exact h.2 k q' h1
theorem A_wsO {cA : FieldType → ClassId} {ad : Nat → Nat} {M : Mem} (M' : Mem) {sz : Nat} : ∀ q, va_A (wsO cA ad M) sz q → va_A (wsO cA ad M') sz q := by
  intro q h
  rcases h with ⟨k, e, h⟩ | h
  · unfold wsO at h
    rw [List.getElem?_map] at h
    cases ho : CO[k]? with
    | none => rw [ho] at h; cases h
    | some o =>
      rw [ho] at h
      cases h
      exact Or.inl ⟨k, _, at_wsO ho⟩
  · exact Or.inr h
end
section
/-! ===== the words of the tables that carry over a call ===== -/
def TB : List Cond := lw_tbl.filter goodWord
def isNest (w : Cond) : Bool := match w with
  | .fieldLinkNest .. => true
  | .methodLinkNest .. => true
  | _ => false
def NW (U : State) : Prop := ∀ w ∈ tables_1, isNest w = true → va_Nw w U
theorem NW.warm {s U : State} (hW : s.WarmedH U.vm) (h : NW s) : NW U := by
  intro w hw hn
  have h1 := h w hw hn
  cases w with
  | fieldLinkNest a i b n d hh => exact va_Nw.warmF hW h1
  | methodLinkNest a i y hh => exact va_Nw.warmM hW h1
  | _ => cases hn
theorem NW.same {u U : State} (hv : u.vm = U.vm) (h : NW u) : NW U := by
  intro w hw hn
  have h1 := h w hw hn
  cases w with
  | fieldLinkNest a i b n d hh => exact va_Nw.same rfl hv h1
  | methodLinkNest a i y hh => exact va_Nw.same rfl hv h1
  | _ => cases hn
theorem tb_of {w : Cond} (h : w ∈ lw_tbl) (g : goodWord w = true) : w ∈ TB := List.mem_filter.mpr ⟨h, g⟩
theorem tb_good : GoodIn TB TB := fun w h => ⟨h, good_of_word (List.mem_filter.mp h).2⟩
theorem tb_p {w : Cond} (i : Nat) (h : (k2_sels lw_privs)[i]? = some w) (g : goodWord w = true) : w ∈ TB := tb_of (List.mem_append_left _ (List.mem_of_getElem? h)) g
theorem tl_1 {w : Cond} (i : Nat) (h : tables_1_1[i]? = some w) : w ∈ tables_1 := List.mem_append_left _ (List.mem_of_getElem? h)
theorem tl_2 {w : Cond} (i : Nat) (h : tables_1_2[i]? = some w) : w ∈ tables_1 := List.mem_append_right _ (List.mem_append_left _ (List.mem_of_getElem? h))
theorem tl_3 {w : Cond} (i : Nat) (h : tables_1_3[i]? = some w) : w ∈ tables_1 := List.mem_append_right _ (List.mem_append_right _ (List.mem_append_left _ (List.mem_of_getElem? h)))
theorem tl_4 {w : Cond} (i : Nat) (h : tables_1_4[i]? = some w) : w ∈ tables_1 := List.mem_append_right _ (List.mem_append_right _ (List.mem_append_right _ (List.mem_append_left _ (List.mem_of_getElem? h))))
theorem tl_5 {w : Cond} (i : Nat) (h : tables_1_5[i]? = some w) : w ∈ tables_1 := List.mem_append_right _ (List.mem_append_right _ (List.mem_append_right _ (List.mem_append_right _ (List.mem_of_getElem? h))))
theorem tb_t {w : Cond} (h : w ∈ tables_1) (g : goodWord w = true) : w ∈ TB := tb_of (List.mem_append_right _ h) g
/-! ===== a method's run ===== -/
/-- name, bytes, locals, return type, frames and words below it -/
abbrev MR : Type := MethodName × ByteArray × Nat × Option FieldType × Nat × Nat
def rmO (m : MR) : Room := { frames := m.2.2.2.2.1, cells := 0, slots := 0, locals := m.2.2.2.2.2 }
def wsM (m : MR) : List Cond := Cond.code m.1 m.2.1 m.2.2.1 m.2.2.2.1 :: TB
def Hd (D : va_G) (cA : FieldType → ClassId) (ad : Nat → Nat) (A : Nat → Prop) (s : State) (M : Mem) (H : Heap) (locs : List Loc) : Prop :=
  va_P D vwCl (wsO cA ad M) H ∧ va_D A (wsO cA ad M) ∧ va_S A s.heap H locs
def Ctx (X : Scr) (m : MR) (p : Program) (R : Room) (s : State) (mid : MethodId) (args : Array Value) (c : Code) (cells slots : Nat) (D : va_G) (cA : FieldType → ClassId) (ad : Nat → Nat) (A : Nat → Prop) : Prop :=
  p.tables.exec = Jvm.exec ∧ c.code = m.2.1 ∧ c.maxLocals = m.2.2.1 ∧ s.vm.findClass m.1.cls = some mid.cls ∧ (∀ w ∈ TB, w.before args s = true) ∧ NW s ∧ va_K D vwCl (tysO cA) s ∧ (∀ q, s.heap.size ≤ q → A q) ∧ (m.2.2.2.2.1 ≤ R.frames ∧ m.2.2.2.2.2 ≤ R.locals) ∧ (cells ≤ R.cells ∧ slots ≤ R.slots) ∧
  (m.1 = yL_law → va_X (ad 999) X.1 (fun j => Int32.ofInt (X.2 j)) s s.heap ∧ ad 999 < s.heap.size ∧ ¬ A (ad 999))
def okR (ret : Option FieldType) (r : Option AV) : Prop := match ret, r with
  | none, none => True
  | some .int, some (.inl z) => inI z
  | some .boolean, some (.inl z) => 0 ≤ z ∧ z ≤ 1
  | some .long, some (.inr (.inl z)) => inL z
  | _, _ => False
def retOp (r : Option AV) : Instr := match r with
  | some (.inl _) => .ireturn
  | some (.inr (.inl _)) => .lreturn
  | _ => .return_
def FinR (m : MR) (P : Option AV → Mem → Prop) (p : Program) (l : Launch) (e : Env) (R : Room) (s : State) (mid : MethodId) (args : Array Value) (below : List Frame) (meth : Method) (c : Code) (cells slots : Nat) (D : va_G) (cA : FieldType → ClassId) (ad : Nat → Nat) (A : Nat → Prop) (Q : State → Prop) : Prop :=
  ∀ (r : Option AV) (M : Mem) (H : Heap) (locs : List Loc) (ls : Array Slot) (pc : Nat), P r M → wfM M → okR m.2.2.2.1 r → Hd D cA ad A s M H locs → decode m.2.1 pc = .ok (retOp r, 1) → W p l e R s mid args below meth c H locs cells slots Q (F0 mid pc ls ((r.map (cV ad)).toList))
def WS (nL : Nat) (p : Program) (l : Launch) (e : Env) (R : Room) (s : State) (mid : MethodId) (args : Array Value) (below : List Frame) (meth : Method) (c : Code) (cells slots : Nat) (D : va_G) (cA : FieldType → ClassId) (ad : Nat → Nat) (A : Nat → Prop) (Q : State → Prop) (pc : Nat) (loc : List (Nat × AV)) (st : List AV) (M : Mem) : Prop :=
  wfM M → wfL loc → wfS st → ∀ (ls : Array Slot) (H : Heap) (locs : List Loc), lv_has ls nL (cL ad loc) → Hd D cA ad A s M H locs → W p l e R s mid args below meth c H locs cells slots Q (F0 mid pc ls (st.map (cV ad)))
/-- from this place of the method, with these locals, this stack and this memory, it returns so that P -/
def Runs (X : Scr) (m : MR) (pc : Nat) (loc : List (Nat × AV)) (st : List AV) (M : Mem) (P : Option AV → Mem → Prop) : Prop :=
  ∀ (p : Program) (l : Launch) (e : Env) (R : Room) (s : State) (mid : MethodId) (args : Array Value) (below : List Frame) (meth : Method) (c : Code) (cells slots : Nat) (D : va_G) (cA : FieldType → ClassId) (ad : Nat → Nat) (A : Nat → Prop) (Q : State → Prop),
    Ctx X m p R s mid args c cells slots D cA ad A → FinR m P p l e R s mid args below meth c cells slots D cA ad A Q → WS m.2.2.1 p l e R s mid args below meth c cells slots D cA ad A Q pc loc st M
section RR
variable {X : Scr} {m : MR} {pc pc' : Nat} {loc loc' : List (Nat × AV)} {st st' : List AV} {M M' : Mem} {P : Option AV → Mem → Prop}
theorem Runs.lift (h : ∀ (p : Program) (l : Launch) (e : Env) (R : Room) (s : State) (mid : MethodId) (args : Array Value) (below : List Frame) (meth : Method) (c : Code) (cells slots : Nat) (D : va_G) (cA : FieldType → ClassId) (ad : Nat → Nat) (A : Nat → Prop) (Q : State → Prop), Ctx X m p R s mid args c cells slots D cA ad A → WS m.2.2.1 p l e R s mid args below meth c cells slots D cA ad A Q pc' loc' st' M' → WS m.2.2.1 p l e R s mid args below meth c cells slots D cA ad A Q pc loc st M) (k : Runs X m pc' loc' st' M' P) : Runs X m pc loc st M P :=
  fun p l e R s mid args below meth c cells slots D cA ad A Q C F => h p l e R s mid args below meth c cells slots D cA ad A Q C (k p l e R s mid args below meth c cells slots D cA ad A Q C F)
theorem wfS_c {v : AV} (hv : wfV v) (h : wfS st) : wfS (v :: st) := fun w hw => by
  rcases List.mem_cons.mp hw with rfl | h1
  · exact hv
  · exact h w h1
theorem wfS_h {v : AV} (h : wfS (v :: st)) : wfV v := h v List.mem_cons_self
theorem wfS_t {v : AV} (h : wfS (v :: st)) : wfS st := fun w hw => h w (List.mem_cons_of_mem _ hw)
theorem wfL_at {k i : Nat} {v : AV} (h : wfL loc) (hk : loc[k]? = some (i, v)) : wfV v := h (i, v) (List.mem_of_getElem? hk)
theorem cL_at {ad : Nat → Nat} {k i : Nat} {v : AV} (hk : loc[k]? = some (i, v)) : (cL ad loc)[k]? = some (i, cV ad v) := by
  unfold cL
  rw [List.getElem?_map, hk]
  rfl
/-- what is in range may be used -/
theorem Runs.wf (k : wfM M → wfL loc → wfS st → Runs X m pc loc st M P) : Runs X m pc loc st M P :=
  fun p l e R s mid args below meth c cells slots D cA ad A Q C F hM hL hS => k hM hL hS p l e R s mid args below meth c cells slots D cA ad A Q C F hM hL hS
/-- fewer locals, in another order -/
theorem Runs.pick (h : ∀ q ∈ loc', q ∈ loc) (k : Runs X m pc loc' st M P) : Runs X m pc loc st M P := by
  refine Runs.lift (fun p l e R s mid args below meth c cells slots D cA ad A Q C w => ?_) k
  intro hM hL hS ls H locs hl hd
  refine w hM (fun q hq => hL q (h q hq)) hS ls H locs ⟨hl.1, hl.2.1, fun q hq => ?_⟩ hd
  unfold cL at hq
  obtain ⟨q0, h0, rfl⟩ := List.mem_map.mp hq
  exact hl.2.2 _ (List.mem_map.mpr ⟨q0, h _ h0, rfl⟩)
theorem Runs.mono {P' : Option AV → Mem → Prop} (k : Runs X m pc loc st M P') (h : ∀ r M1, P' r M1 → P r M1) : Runs X m pc loc st M P :=
  fun p l e R s mid args below meth c cells slots D cA ad A Q C F => k p l e R s mid args below meth c cells slots D cA ad A Q C (fun r M1 H locs ls q hP => F r M1 H locs ls q (h r M1 hP))
-- ===== constants and loads
theorem Runs.iload_n {k : Fin 4} {j : Nat} {z : Int} (hd : decode m.2.1 pc = .ok (.iload_n k, 1)) (hl : loc[j]? = some ((k : Nat), vi z)) (kk : Runs X m (pc + 1) loc (vi z :: st) M P) : Runs X m pc loc st M P := by
  refine Runs.lift (fun p l e R s mid args below meth c cells slots D cA ad A Q C w => ?_) kk
  intro hM hL hS ls H locs hlv hH
  exact lv_iload_n C.1 C.2.1 hd rfl (lv_at hlv j (cL_at hl)) (w hM hL (wfS_c (wfL_at hL hl) hS) ls H locs hlv hH)
theorem Runs.iload {i j : Nat} {z : Int} (hd : decode m.2.1 pc = .ok (.iload i, 2)) (hl : loc[j]? = some (i, vi z)) (kk : Runs X m (pc + 2) loc (vi z :: st) M P) : Runs X m pc loc st M P := by
  refine Runs.lift (fun p l e R s mid args below meth c cells slots D cA ad A Q C w => ?_) kk
  intro hM hL hS ls H locs hlv hH
  exact lv_iload C.1 C.2.1 hd (lv_at hlv j (cL_at hl)) (w hM hL (wfS_c (wfL_at hL hl) hS) ls H locs hlv hH)
theorem Runs.lload_n {k : Fin 4} {j : Nat} {z : Int} (hd : decode m.2.1 pc = .ok (.lload_n k, 1)) (hl : loc[j]? = some ((k : Nat), vl z)) (kk : Runs X m (pc + 1) loc (vl z :: st) M P) : Runs X m pc loc st M P := by
  refine Runs.lift (fun p l e R s mid args below meth c cells slots D cA ad A Q C w => ?_) kk
  intro hM hL hS ls H locs hlv hH
  exact lv_lload_n C.1 C.2.1 hd rfl (lv_at hlv j (cL_at hl)) (w hM hL (wfS_c (wfL_at hL hl) hS) ls H locs hlv hH)
theorem Runs.lload {i j : Nat} {z : Int} (hd : decode m.2.1 pc = .ok (.lload i, 2)) (hl : loc[j]? = some (i, vl z)) (kk : Runs X m (pc + 2) loc (vl z :: st) M P) : Runs X m pc loc st M P := by
  refine Runs.lift (fun p l e R s mid args below meth c cells slots D cA ad A Q C w => ?_) kk
  intro hM hL hS ls H locs hlv hH
  exact lv_lload C.1 C.2.1 hd (lv_at hlv j (cL_at hl)) (w hM hL (wfS_c (wfL_at hL hl) hS) ls H locs hlv hH)
theorem Runs.aload_n {k : Fin 4} {j o : Nat} (hd : decode m.2.1 pc = .ok (.aload_n k, 1)) (hl : loc[j]? = some ((k : Nat), vr o)) (kk : Runs X m (pc + 1) loc (vr o :: st) M P) : Runs X m pc loc st M P := by
  refine Runs.lift (fun p l e R s mid args below meth c cells slots D cA ad A Q C w => ?_) kk
  intro hM hL hS ls H locs hlv hH
  exact lv_aload_n C.1 C.2.1 hd rfl (lv_at hlv j (cL_at hl)) (w hM hL (wfS_c trivial hS) ls H locs hlv hH)
theorem Runs.iconst {n : Int} (hd : decode m.2.1 pc = .ok (.iconst n, 1)) (hn : inI n) (kk : Runs X m (pc + 1) loc (vi n :: st) M P) : Runs X m pc loc st M P := by
  refine Runs.lift (fun p l e R s mid args below meth c cells slots D cA ad A Q C w => ?_) kk
  intro hM hL hS ls H locs hlv hH
  exact lv_iconst C.1 C.2.1 hd rfl (w hM hL (wfS_c hn hS) ls H locs hlv hH)
theorem Runs.bipush {n : Int} (hd : decode m.2.1 pc = .ok (.bipush n, 2)) (hn : (Int8.ofInt n).toInt32 = Int32.ofInt n) (hi : inI n) (kk : Runs X m (pc + 2) loc (vi n :: st) M P) : Runs X m pc loc st M P := by
  refine Runs.lift (fun p l e R s mid args below meth c cells slots D cA ad A Q C w => ?_) kk
  intro hM hL hS ls H locs hlv hH
  exact lv_bipush C.1 C.2.1 hd hn (w hM hL (wfS_c hi hS) ls H locs hlv hH)
theorem Runs.sipush {n : Int} (hd : decode m.2.1 pc = .ok (.sipush n, 3)) (hn : (Int16.ofInt n).toInt32 = Int32.ofInt n) (hi : inI n) (kk : Runs X m (pc + 3) loc (vi n :: st) M P) : Runs X m pc loc st M P := by
  refine Runs.lift (fun p l e R s mid args below meth c cells slots D cA ad A Q C w => ?_) kk
  intro hM hL hS ls H locs hlv hH
  exact lv_sipush C.1 C.2.1 hd hn (w hM hL (wfS_c hi hS) ls H locs hlv hH)
theorem Runs.lconst {n : Fin 2} {z : Int} (hd : decode m.2.1 pc = .ok (.lconst n, 1)) (hn : Int64.ofNat (n : Nat) = Int64.ofInt z) (hi : inL z) (kk : Runs X m (pc + 1) loc (vl z :: st) M P) : Runs X m pc loc st M P := by
  refine Runs.lift (fun p l e R s mid args below meth c cells slots D cA ad A Q C w => ?_) kk
  intro hM hL hS ls H locs hlv hH
  exact lv_lconst C.1 C.2.1 hd hn (w hM hL (wfS_c hi hS) ls H locs hlv hH)
theorem Runs.ldc2 {index : Nat} {v : Int64} {z : Int} (hd : decode m.2.1 pc = .ok (.ldc2_w index, 3)) (hw : Cond.constantLong m.1.cls index v ∈ TB) (hv : v = Int64.ofInt z) (hi : inL z) (kk : Runs X m (pc + 3) loc (vl z :: st) M P) : Runs X m pc loc st M P := by
  refine Runs.lift (fun p l e R s mid args below meth c cells slots D cA ad A Q C w => ?_) kk
  intro hM hL hS ls H locs hlv hH
  subst hv
  exact lv_ldc2 C.1 C.2.1 C.2.2.2.1 (C.2.2.2.2.1 _ hw) hd (w hM hL (wfS_c hi hS) ls H locs hlv hH)
theorem Runs.ldcw {index : Nat} {v : Int32} {z : Int} (hd : decode m.2.1 pc = .ok (.ldc_w index, 3)) (hw : Cond.constant m.1.cls index v ∈ TB) (hv : v = Int32.ofInt z) (hi : inI z) (kk : Runs X m (pc + 3) loc (vi z :: st) M P) : Runs X m pc loc st M P := by
  refine Runs.lift (fun p l e R s mid args below meth c cells slots D cA ad A Q C w => ?_) kk
  intro hM hL hS ls H locs hlv hH
  subst hv
  exact lv_ldcw C.1 C.2.1 C.2.2.2.1 (C.2.2.2.2.1 _ hw) hd (w hM hL (wfS_c hi hS) ls H locs hlv hH)
-- ===== stack
theorem cV_cat1 {ad : Nat → Nat} {v : AV} (h : ∀ z, v ≠ vl z) : (cV ad v).category = 1 := by
  rcases v with z | z | o
  · rfl
  · exact absurd rfl (h z)
  · rfl
theorem Runs.dup {v : AV} (hd : decode m.2.1 pc = .ok (.dup, 1)) (hv : ∀ z, v ≠ vl z) (kk : Runs X m (pc + 1) loc (v :: v :: st) M P) : Runs X m pc loc (v :: st) M P := by
  refine Runs.lift (fun p l e R s mid args below meth c cells slots D cA ad A Q C w => ?_) kk
  intro hM hL hS ls H locs hlv hH
  exact lv_dup C.1 C.2.1 hd (cV_cat1 hv) (w hM hL (wfS_c (wfS_h hS) hS) ls H locs hlv hH)
theorem Runs.dup2 {v u : AV} (hd : decode m.2.1 pc = .ok (.dup2, 1)) (hv : ∀ z, v ≠ vl z) (hu : ∀ z, u ≠ vl z) (kk : Runs X m (pc + 1) loc (v :: u :: v :: u :: st) M P) : Runs X m pc loc (v :: u :: st) M P := by
  refine Runs.lift (fun p l e R s mid args below meth c cells slots D cA ad A Q C w => ?_) kk
  intro hM hL hS ls H locs hlv hH
  exact lv_dup2_11 C.1 C.2.1 hd (cV_cat1 hv) (cV_cat1 hu) (w hM hL (wfS_c (wfS_h hS) (wfS_c (wfS_h (wfS_t hS)) hS)) ls H locs hlv hH)
theorem Runs.pop {v : AV} (hd : decode m.2.1 pc = .ok (.pop, 1)) (hv : ∀ z, v ≠ vl z) (kk : Runs X m (pc + 1) loc st M P) : Runs X m pc loc (v :: st) M P := by
  refine Runs.lift (fun p l e R s mid args below meth c cells slots D cA ad A Q C w => ?_) kk
  intro hM hL hS ls H locs hlv hH
  exact lv_pop C.1 C.2.1 hd (cV_cat1 hv) (w hM hL (wfS_t hS) ls H locs hlv hH)
end RR
end
section
/-! ===== arithmetic ===== -/
theorem i32_t {a : Int} (h : inI a) : (Int32.ofInt a).toInt = a := Int32.toInt_ofInt_of_le (by omega) (by omega)
theorem i64_t {a : Int} (h : inL a) : (Int64.ofInt a).toInt = a := Int64.toInt_ofInt_of_le (by omega) (by omega)
theorem i32_le {a b : Int} (ha : inI a) (hb : inI b) : Int32.ofInt a ≤ Int32.ofInt b ↔ a ≤ b := by rw [Int32.le_iff_toInt_le, i32_t ha, i32_t hb]
theorem i32_lt {a b : Int} (ha : inI a) (hb : inI b) : Int32.ofInt a < Int32.ofInt b ↔ a < b := by rw [Int32.lt_iff_toInt_lt, i32_t ha, i32_t hb]
theorem i32_eq {a b : Int} (ha : inI a) (hb : inI b) : Int32.ofInt a = Int32.ofInt b ↔ a = b := by rw [← Int32.toInt_inj, i32_t ha, i32_t hb]
theorem i64_le {a b : Int} (ha : inL a) (hb : inL b) : Int64.ofInt a ≤ Int64.ofInt b ↔ a ≤ b := by rw [Int64.le_iff_toInt_le, i64_t ha, i64_t hb]
theorem i64_lt {a b : Int} (ha : inL a) (hb : inL b) : Int64.ofInt a < Int64.ofInt b ↔ a < b := by rw [Int64.lt_iff_toInt_lt, i64_t ha, i64_t hb]
theorem i64_eq {a b : Int} (ha : inL a) (hb : inL b) : Int64.ofInt a = Int64.ofInt b ↔ a = b := by rw [← Int64.toInt_inj, i64_t ha, i64_t hb]
theorem i32_0 : Int32.ofInt 0 = 0 := rfl
theorem i64_0 : Int64.ofInt 0 = 0 := rfl
theorem i32_of (x : Int32) : Int32.ofInt x.toInt = x := Int32.ofInt_toInt x
theorem i32_in (x : Int32) : inI x.toInt := ⟨Int32.le_toInt x, by have := Int32.toInt_lt x; omega⟩
theorem i64_in (x : Int64) : inL x.toInt := ⟨Int64.le_toInt x, by have := Int64.toInt_lt x; omega⟩
/-- the operations on bits, as they are on 32 and 64 bits -/
def zand (a b : Int) : Int := (Int32.ofInt a &&& Int32.ofInt b).toInt
def zor (a b : Int) : Int := (Int32.ofInt a ||| Int32.ofInt b).toInt
def zxor (a b : Int) : Int := (Int32.ofInt a ^^^ Int32.ofInt b).toInt
def zshl (a b : Int) : Int := (Int32.ofInt a <<< (Int32.ofInt b &&& 31)).toInt
def zshr (a b : Int) : Int := (Int32.ofInt a >>> (Int32.ofInt b &&& 31)).toInt
def zushr (a b : Int) : Int := ((Int32.ofInt a).toUInt32 >>> ((Int32.ofInt b).toUInt32 &&& Int32.toUInt32 31)).toInt32.toInt
def qand (a b : Int) : Int := (Int64.ofInt a &&& Int64.ofInt b).toInt
def qor (a b : Int) : Int := (Int64.ofInt a ||| Int64.ofInt b).toInt
def qshl (a b : Int) : Int := (Int64.ofInt a <<< ((Int32.ofInt b).toInt64 &&& 63)).toInt
def qshr (a b : Int) : Int := (Int64.ofInt a >>> ((Int32.ofInt b).toInt64 &&& 63)).toInt
def qushr (a b : Int) : Int := ((Int64.ofInt a).toUInt64 >>> ((Int32.ofInt b).toInt64.toUInt64 &&& Int64.toUInt64 63)).toInt64.toInt
/-- 64 bits, wrapping -/
def wrapL (a : Int) : Int := (Int64.ofInt a).toInt
def l2i (a : Int) : Int := (Int32.ofInt a).toInt
def i2b (a : Int) : Int := (Int32.ofInt a).toInt8.toInt32.toInt
section RA
variable {X : Scr} {m : MR} {pc pc' : Nat} {loc loc' : List (Nat × AV)} {st st' : List AV} {M M' : Mem} {P : Option AV → Mem → Prop}
theorem Runs.iadd {a b : Int} (hd : decode m.2.1 pc = .ok (.iadd, 1)) (hr : inI (a + b)) (kk : Runs X m (pc + 1) loc (vi (a + b) :: st) M P) : Runs X m pc loc (vi b :: vi a :: st) M P := by
  refine Runs.lift (fun p l e R s mid args below meth c cells slots D cA ad A Q C w => ?_) kk
  intro hM hL hS ls H locs hlv hH
  have k := w hM hL (wfS_c hr (wfS_t (wfS_t hS))) ls H locs hlv hH
  refine lv_iadd C.1 C.2.1 hd ?_
  rw [← Int32.ofInt_add]; exact k
theorem Runs.isub {a b : Int} (hd : decode m.2.1 pc = .ok (.isub, 1)) (hr : inI (a - b)) (kk : Runs X m (pc + 1) loc (vi (a - b) :: st) M P) : Runs X m pc loc (vi b :: vi a :: st) M P := by
  refine Runs.lift (fun p l e R s mid args below meth c cells slots D cA ad A Q C w => ?_) kk
  intro hM hL hS ls H locs hlv hH
  have k := w hM hL (wfS_c hr (wfS_t (wfS_t hS))) ls H locs hlv hH
  refine lv_isub C.1 C.2.1 hd ?_
  rw [← Int32.ofInt_sub]; exact k
theorem Runs.imul {a b : Int} (hd : decode m.2.1 pc = .ok (.imul, 1)) (hr : inI (a * b)) (kk : Runs X m (pc + 1) loc (vi (a * b) :: st) M P) : Runs X m pc loc (vi b :: vi a :: st) M P := by
  refine Runs.lift (fun p l e R s mid args below meth c cells slots D cA ad A Q C w => ?_) kk
  intro hM hL hS ls H locs hlv hH
  have k := w hM hL (wfS_c hr (wfS_t (wfS_t hS))) ls H locs hlv hH
  refine lv_imul C.1 C.2.1 hd ?_
  rw [← Int32.ofInt_mul]; exact k
theorem Runs.ineg {a : Int} (hd : decode m.2.1 pc = .ok (.ineg, 1)) (hr : inI (-a)) (kk : Runs X m (pc + 1) loc (vi (-a) :: st) M P) : Runs X m pc loc (vi a :: st) M P := by
  refine Runs.lift (fun p l e R s mid args below meth c cells slots D cA ad A Q C w => ?_) kk
  intro hM hL hS ls H locs hlv hH
  have k := w hM hL (wfS_c hr (wfS_t hS)) ls H locs hlv hH
  refine lv_ineg C.1 C.2.1 hd ?_
  rw [← Int32.ofInt_neg]; exact k
theorem i32_div {a b : Int} (ha : 0 ≤ a) (ha2 : inI a) (hb : 0 < b) (hb2 : inI b) : Int32.ofInt a / Int32.ofInt b = Int32.ofInt (a / b) := by
  have h := Int32.ofInt_tdiv (a := a) (b := b) (by rw [show Int32.minValue.toInt = -2147483648 from rfl]; omega) (by rw [show Int32.maxValue.toInt = 2147483647 from rfl]; omega) (by rw [show Int32.minValue.toInt = -2147483648 from rfl]; omega) (by rw [show Int32.maxValue.toInt = 2147483647 from rfl]; omega)
  rw [← h, Int.tdiv_eq_ediv_of_nonneg ha]
theorem i64_div {a b : Int} (ha : 0 ≤ a) (ha2 : inL a) (hb : 0 < b) (hb2 : inL b) : Int64.ofInt a / Int64.ofInt b = Int64.ofInt (a / b) := by
  have h := Int64.ofInt_tdiv (a := a) (b := b) (by rw [show Int64.minValue.toInt = -9223372036854775808 from rfl]; omega) (by rw [show Int64.maxValue.toInt = 9223372036854775807 from rfl]; omega) (by rw [show Int64.minValue.toInt = -9223372036854775808 from rfl]; omega) (by rw [show Int64.maxValue.toInt = 9223372036854775807 from rfl]; omega)
  rw [← h, Int.tdiv_eq_ediv_of_nonneg ha]
theorem div_inI {a b : Int} (ha : 0 ≤ a) (ha2 : inI a) (hb : 0 < b) : inI (a / b) := ⟨by have := Int.ediv_nonneg ha (Int.le_of_lt hb); omega, by have := Int.ediv_le_self b ha; omega⟩
theorem div_inL {a b : Int} (ha : 0 ≤ a) (ha2 : inL a) (hb : 0 < b) : inL (a / b) := ⟨by have := Int.ediv_nonneg ha (Int.le_of_lt hb); omega, by have := Int.ediv_le_self b ha; omega⟩
theorem mod_inI {a b : Int} (hb2 : inI b) (hb : 0 < b) : inI (a % b) := ⟨by have := Int.emod_nonneg a (Int.ne_of_gt hb); omega, by have := Int.emod_lt_of_pos a hb; omega⟩
theorem mod_inL {a b : Int} (hb2 : inL b) (hb : 0 < b) : inL (a % b) := ⟨by have := Int.emod_nonneg a (Int.ne_of_gt hb); omega, by have := Int.emod_lt_of_pos a hb; omega⟩
theorem Runs.idiv {a b : Int} (hd : decode m.2.1 pc = .ok (.idiv, 1)) (ha : 0 ≤ a) (hb : 0 < b) (kk : Runs X m (pc + 1) loc (vi (a / b) :: st) M P) : Runs X m pc loc (vi b :: vi a :: st) M P := by
  refine Runs.lift (fun p l e R s mid args below meth c cells slots D cA ad A Q C w => ?_) kk
  intro hM hL hS ls H locs hlv hH
  have hbi : inI b := wfS_h hS
  have hai : inI a := wfS_h (wfS_t hS)
  have k := w hM hL (wfS_c (div_inI ha hai hb) (wfS_t (wfS_t hS))) ls H locs hlv hH
  refine lv_idiv C.1 C.2.1 hd (by rw [← i32_0, i32_eq hbi (by decide)]; omega) ?_
  rw [i32_div ha hai hb hbi]; exact k
theorem Runs.irem {a b : Int} (hd : decode m.2.1 pc = .ok (.irem, 1)) (ha : 0 ≤ a) (hb : 0 < b) (kk : Runs X m (pc + 1) loc (vi (a % b) :: st) M P) : Runs X m pc loc (vi b :: vi a :: st) M P := by
  refine Runs.lift (fun p l e R s mid args below meth c cells slots D cA ad A Q C w => ?_) kk
  intro hM hL hS ls H locs hlv hH
  have hbi : inI b := wfS_h hS
  have hai : inI a := wfS_h (wfS_t hS)
  have k := w hM hL (wfS_c (mod_inI hbi hb) (wfS_t (wfS_t hS))) ls H locs hlv hH
  refine lv_irem C.1 C.2.1 hd (by rw [← i32_0, i32_eq hbi (by decide)]; omega) ?_
  rw [i32_div ha hai hb hbi, ← Int32.ofInt_mul, ← Int32.ofInt_sub, show a - a / b * b = a % b by rw [Int.emod_def, Int.mul_comm]]; exact k
theorem Runs.ldiv {a b : Int} (hd : decode m.2.1 pc = .ok (.ldiv, 1)) (ha : 0 ≤ a) (hb : 0 < b) (kk : Runs X m (pc + 1) loc (vl (a / b) :: st) M P) : Runs X m pc loc (vl b :: vl a :: st) M P := by
  refine Runs.lift (fun p l e R s mid args below meth c cells slots D cA ad A Q C w => ?_) kk
  intro hM hL hS ls H locs hlv hH
  have hbi : inL b := wfS_h hS
  have hai : inL a := wfS_h (wfS_t hS)
  have k := w hM hL (wfS_c (div_inL ha hai hb) (wfS_t (wfS_t hS))) ls H locs hlv hH
  refine lv_ldiv C.1 C.2.1 hd (by rw [← i64_0, i64_eq hbi (by decide)]; omega) ?_
  rw [i64_div ha hai hb hbi]; exact k
theorem Runs.lrem {a b : Int} (hd : decode m.2.1 pc = .ok (.lrem, 1)) (ha : 0 ≤ a) (hb : 0 < b) (kk : Runs X m (pc + 1) loc (vl (a % b) :: st) M P) : Runs X m pc loc (vl b :: vl a :: st) M P := by
  refine Runs.lift (fun p l e R s mid args below meth c cells slots D cA ad A Q C w => ?_) kk
  intro hM hL hS ls H locs hlv hH
  have hbi : inL b := wfS_h hS
  have hai : inL a := wfS_h (wfS_t hS)
  have k := w hM hL (wfS_c (mod_inL hbi hb) (wfS_t (wfS_t hS))) ls H locs hlv hH
  refine lv_lrem C.1 C.2.1 hd (by rw [← i64_0, i64_eq hbi (by decide)]; omega) ?_
  rw [i64_div ha hai hb hbi, ← Int64.ofInt_mul, ← Int64.ofInt_sub, show a - a / b * b = a % b by rw [Int.emod_def, Int.mul_comm]]; exact k
theorem Runs.iand {a b : Int} (hd : decode m.2.1 pc = .ok (.iand, 1)) (kk : Runs X m (pc + 1) loc (vi (zand a b) :: st) M P) : Runs X m pc loc (vi b :: vi a :: st) M P := by
  refine Runs.lift (fun p l e R s mid args below meth c cells slots D cA ad A Q C w => ?_) kk
  intro hM hL hS ls H locs hlv hH
  have k := w hM hL (wfS_c (i32_in _) (wfS_t (wfS_t hS))) ls H locs hlv hH
  refine lv_iand C.1 C.2.1 hd ?_
  rw [← i32_of (Int32.ofInt a &&& Int32.ofInt b)]; exact k
theorem Runs.ior {a b : Int} (hd : decode m.2.1 pc = .ok (.ior, 1)) (kk : Runs X m (pc + 1) loc (vi (zor a b) :: st) M P) : Runs X m pc loc (vi b :: vi a :: st) M P := by
  refine Runs.lift (fun p l e R s mid args below meth c cells slots D cA ad A Q C w => ?_) kk
  intro hM hL hS ls H locs hlv hH
  have k := w hM hL (wfS_c (i32_in _) (wfS_t (wfS_t hS))) ls H locs hlv hH
  refine lv_ior C.1 C.2.1 hd ?_
  rw [← i32_of (Int32.ofInt a ||| Int32.ofInt b)]; exact k
theorem Runs.ixor {a b : Int} (hd : decode m.2.1 pc = .ok (.ixor, 1)) (kk : Runs X m (pc + 1) loc (vi (zxor a b) :: st) M P) : Runs X m pc loc (vi b :: vi a :: st) M P := by
  refine Runs.lift (fun p l e R s mid args below meth c cells slots D cA ad A Q C w => ?_) kk
  intro hM hL hS ls H locs hlv hH
  have k := w hM hL (wfS_c (i32_in _) (wfS_t (wfS_t hS))) ls H locs hlv hH
  refine lv_ixor C.1 C.2.1 hd ?_
  rw [← i32_of (Int32.ofInt a ^^^ Int32.ofInt b)]; exact k
theorem Runs.ishl {a b : Int} (hd : decode m.2.1 pc = .ok (.ishl, 1)) (kk : Runs X m (pc + 1) loc (vi (zshl a b) :: st) M P) : Runs X m pc loc (vi b :: vi a :: st) M P := by
  refine Runs.lift (fun p l e R s mid args below meth c cells slots D cA ad A Q C w => ?_) kk
  intro hM hL hS ls H locs hlv hH
  have k := w hM hL (wfS_c (i32_in _) (wfS_t (wfS_t hS))) ls H locs hlv hH
  refine lv_ishl C.1 C.2.1 hd ?_
  rw [← i32_of (Int32.ofInt a <<< (Int32.ofInt b &&& 31))]; exact k
theorem Runs.ishr {a b : Int} (hd : decode m.2.1 pc = .ok (.ishr, 1)) (kk : Runs X m (pc + 1) loc (vi (zshr a b) :: st) M P) : Runs X m pc loc (vi b :: vi a :: st) M P := by
  refine Runs.lift (fun p l e R s mid args below meth c cells slots D cA ad A Q C w => ?_) kk
  intro hM hL hS ls H locs hlv hH
  have k := w hM hL (wfS_c (i32_in _) (wfS_t (wfS_t hS))) ls H locs hlv hH
  refine lv_ishr C.1 C.2.1 hd ?_
  rw [← i32_of (Int32.ofInt a >>> (Int32.ofInt b &&& 31))]; exact k
theorem Runs.iushr {a b : Int} (hd : decode m.2.1 pc = .ok (.iushr, 1)) (kk : Runs X m (pc + 1) loc (vi (zushr a b) :: st) M P) : Runs X m pc loc (vi b :: vi a :: st) M P := by
  refine Runs.lift (fun p l e R s mid args below meth c cells slots D cA ad A Q C w => ?_) kk
  intro hM hL hS ls H locs hlv hH
  have k := w hM hL (wfS_c (i32_in _) (wfS_t (wfS_t hS))) ls H locs hlv hH
  refine lv_iushr C.1 C.2.1 hd rfl ?_
  rw [← i32_of (((Int32.ofInt a).toUInt32 >>> ((Int32.ofInt b).toUInt32 &&& Int32.toUInt32 31)).toInt32)]; exact k
-- ===== longs
theorem Runs.i2l {a : Int} (hd : decode m.2.1 pc = .ok (.i2l, 1)) (kk : Runs X m (pc + 1) loc (vl a :: st) M P) : Runs X m pc loc (vi a :: st) M P := by
  refine Runs.lift (fun p l e R s mid args below meth c cells slots D cA ad A Q C w => ?_) kk
  intro hM hL hS ls H locs hlv hH
  have ha : inI a := wfS_h hS
  exact lv_i2l C.1 C.2.1 hd (Int64.toInt_inj.mp (by rw [Int32.toInt_toInt64, i32_t ha, i64_t ⟨by omega, by omega⟩])) (w hM hL (wfS_c (show inL a from ⟨by omega, by omega⟩) (wfS_t hS)) ls H locs hlv hH)
theorem Runs.l2i {a : Int} (hd : decode m.2.1 pc = .ok (.l2i, 1)) (kk : Runs X m (pc + 1) loc (vi (l2i a) :: st) M P) : Runs X m pc loc (vl a :: st) M P := by
  refine Runs.lift (fun p l e R s mid args below meth c cells slots D cA ad A Q C w => ?_) kk
  intro hM hL hS ls H locs hlv hH
  exact lv_l2i C.1 C.2.1 hd (by rw [Int64.toInt32_ofInt, Jvm.Pilot.@@N@@.l2i, i32_of]) (w hM hL (wfS_c (i32_in _) (wfS_t hS)) ls H locs hlv hH)
theorem Runs.i2b {a : Int} (hd : decode m.2.1 pc = .ok (.i2b, 1)) (kk : Runs X m (pc + 1) loc (vi (i2b a) :: st) M P) : Runs X m pc loc (vi a :: st) M P := by
  refine Runs.lift (fun p l e R s mid args below meth c cells slots D cA ad A Q C w => ?_) kk
  intro hM hL hS ls H locs hlv hH
  exact lv_i2b C.1 C.2.1 hd (by rw [Jvm.Pilot.@@N@@.i2b, i32_of]) (w hM hL (wfS_c (i32_in _) (wfS_t hS)) ls H locs hlv hH)
theorem Runs.ladd {a b : Int} (hd : decode m.2.1 pc = .ok (.ladd, 1)) (hr : inL (a + b)) (kk : Runs X m (pc + 1) loc (vl (a + b) :: st) M P) : Runs X m pc loc (vl b :: vl a :: st) M P := by
  refine Runs.lift (fun p l e R s mid args below meth c cells slots D cA ad A Q C w => ?_) kk
  intro hM hL hS ls H locs hlv hH
  have k := w hM hL (wfS_c hr (wfS_t (wfS_t hS))) ls H locs hlv hH
  refine lv_ladd C.1 C.2.1 hd ?_
  rw [← Int64.ofInt_add]; exact k
theorem Runs.lmul {a b : Int} (hd : decode m.2.1 pc = .ok (.lmul, 1)) (hr : inL (a * b)) (kk : Runs X m (pc + 1) loc (vl (a * b) :: st) M P) : Runs X m pc loc (vl b :: vl a :: st) M P := by
  refine Runs.lift (fun p l e R s mid args below meth c cells slots D cA ad A Q C w => ?_) kk
  intro hM hL hS ls H locs hlv hH
  have k := w hM hL (wfS_c hr (wfS_t (wfS_t hS))) ls H locs hlv hH
  refine lv_lmul C.1 C.2.1 hd ?_
  rw [← Int64.ofInt_mul]; exact k
theorem Runs.laddW {a b : Int} (hd : decode m.2.1 pc = .ok (.ladd, 1)) (kk : Runs X m (pc + 1) loc (vl (wrapL (a + b)) :: st) M P) : Runs X m pc loc (vl b :: vl a :: st) M P := by
  refine Runs.lift (fun p l e R s mid args below meth c cells slots D cA ad A Q C w => ?_) kk
  intro hM hL hS ls H locs hlv hH
  have k := w hM hL (wfS_c (i64_in _) (wfS_t (wfS_t hS))) ls H locs hlv hH
  refine lv_ladd C.1 C.2.1 hd ?_
  rw [← Int64.ofInt_add, ← Int64.ofInt_toInt (Int64.ofInt (a + b))]; exact k
theorem Runs.lmulW {a b : Int} (hd : decode m.2.1 pc = .ok (.lmul, 1)) (kk : Runs X m (pc + 1) loc (vl (wrapL (a * b)) :: st) M P) : Runs X m pc loc (vl b :: vl a :: st) M P := by
  refine Runs.lift (fun p l e R s mid args below meth c cells slots D cA ad A Q C w => ?_) kk
  intro hM hL hS ls H locs hlv hH
  have k := w hM hL (wfS_c (i64_in _) (wfS_t (wfS_t hS))) ls H locs hlv hH
  refine lv_lmul C.1 C.2.1 hd ?_
  rw [← Int64.ofInt_mul, ← Int64.ofInt_toInt (Int64.ofInt (a * b))]; exact k
theorem Runs.land {a b : Int} (hd : decode m.2.1 pc = .ok (.land, 1)) (kk : Runs X m (pc + 1) loc (vl (qand a b) :: st) M P) : Runs X m pc loc (vl b :: vl a :: st) M P := by
  refine Runs.lift (fun p l e R s mid args below meth c cells slots D cA ad A Q C w => ?_) kk
  intro hM hL hS ls H locs hlv hH
  have k := w hM hL (wfS_c (i64_in _) (wfS_t (wfS_t hS))) ls H locs hlv hH
  refine lv_land C.1 C.2.1 hd ?_
  rw [← Int64.ofInt_toInt (Int64.ofInt a &&& Int64.ofInt b)]; exact k
theorem Runs.lor {a b : Int} (hd : decode m.2.1 pc = .ok (.lor, 1)) (kk : Runs X m (pc + 1) loc (vl (qor a b) :: st) M P) : Runs X m pc loc (vl b :: vl a :: st) M P := by
  refine Runs.lift (fun p l e R s mid args below meth c cells slots D cA ad A Q C w => ?_) kk
  intro hM hL hS ls H locs hlv hH
  have k := w hM hL (wfS_c (i64_in _) (wfS_t (wfS_t hS))) ls H locs hlv hH
  refine lv_lor C.1 C.2.1 hd ?_
  rw [← Int64.ofInt_toInt (Int64.ofInt a ||| Int64.ofInt b)]; exact k
theorem Runs.lshl {a b : Int} (hd : decode m.2.1 pc = .ok (.lshl, 1)) (kk : Runs X m (pc + 1) loc (vl (qshl a b) :: st) M P) : Runs X m pc loc (vi b :: vl a :: st) M P := by
  refine Runs.lift (fun p l e R s mid args below meth c cells slots D cA ad A Q C w => ?_) kk
  intro hM hL hS ls H locs hlv hH
  have k := w hM hL (wfS_c (i64_in _) (wfS_t (wfS_t hS))) ls H locs hlv hH
  refine lv_lshl C.1 C.2.1 hd rfl ?_
  rw [← Int64.ofInt_toInt (Int64.ofInt a <<< ((Int32.ofInt b).toInt64 &&& 63))]; exact k
theorem Runs.lshr {a b : Int} (hd : decode m.2.1 pc = .ok (.lshr, 1)) (kk : Runs X m (pc + 1) loc (vl (qshr a b) :: st) M P) : Runs X m pc loc (vi b :: vl a :: st) M P := by
  refine Runs.lift (fun p l e R s mid args below meth c cells slots D cA ad A Q C w => ?_) kk
  intro hM hL hS ls H locs hlv hH
  have k := w hM hL (wfS_c (i64_in _) (wfS_t (wfS_t hS))) ls H locs hlv hH
  refine lv_lshr C.1 C.2.1 hd rfl ?_
  rw [← Int64.ofInt_toInt (Int64.ofInt a >>> ((Int32.ofInt b).toInt64 &&& 63))]; exact k
theorem Runs.lushr {a b : Int} (hd : decode m.2.1 pc = .ok (.lushr, 1)) (kk : Runs X m (pc + 1) loc (vl (qushr a b) :: st) M P) : Runs X m pc loc (vi b :: vl a :: st) M P := by
  refine Runs.lift (fun p l e R s mid args below meth c cells slots D cA ad A Q C w => ?_) kk
  intro hM hL hS ls H locs hlv hH
  have k := w hM hL (wfS_c (i64_in _) (wfS_t (wfS_t hS))) ls H locs hlv hH
  refine lv_lushr C.1 C.2.1 hd rfl ?_
  rw [← Int64.ofInt_toInt (((Int64.ofInt a).toUInt64 >>> ((Int32.ofInt b).toInt64.toUInt64 &&& Int64.toUInt64 63)).toInt64)]; exact k
end RA
end
section
/-! ===== locals that are written, branches ===== -/
def cat2 (v : AV) : Bool := match v with
  | .inr (.inl _) => true
  | _ => false
def insL (i : Nat) (v : AV) : List (Nat × AV) → List (Nat × AV)
  | [] => [(i, v)]
  | q :: t => if i < q.1 then (i, v) :: q :: t else q :: insL i v t
/-- a local of one word written -/
def st1 (loc : List (Nat × AV)) (i : Nat) (v : AV) : List (Nat × AV) := insL i v (loc.filter (fun q => !(q.1 == i) && !(q.1 + 1 == i && cat2 q.2)))
/-- a local of two words written -/
def st2 (loc : List (Nat × AV)) (i : Nat) (v : AV) : List (Nat × AV) := insL i v (loc.filter (fun q => !(q.1 == i) && (!(q.1 == i + 1) && !(q.1 + 1 == i && cat2 q.2))))
theorem mem_insL {i : Nat} {v : AV} {q : Nat × AV} : ∀ {l : List (Nat × AV)}, q ∈ insL i v l → q = (i, v) ∨ q ∈ l
  | [], h => by simpa [insL] using h
  | a :: t, h => by
    unfold insL at h
    split at h
    · rcases List.mem_cons.mp h with h1 | h1
      · exact Or.inl h1
      · exact Or.inr h1
    · rcases List.mem_cons.mp h with h1 | h1
      · exact Or.inr (by rw [h1]; exact List.mem_cons_self)
      · rcases mem_insL h1 with h2 | h2
        · exact Or.inl h2
        · exact Or.inr (List.mem_cons_of_mem _ h2)
theorem cV_cat2 (ad : Nat → Nat) (v : AV) : ((cV ad v).category == 2) = cat2 v := by rcases v with z | z | o <;> rfl
theorem lv_mem {ad : Nat → Nat} {ls : Array Slot} {nL : Nat} {l : List (Nat × Value)} {loc : List (Nat × AV)} (h : lv_has ls nL l) (hs : ∀ q ∈ loc, (q.1, cV ad q.2) ∈ l) : lv_has ls nL (cL ad loc) := by
  refine ⟨h.1, h.2.1, fun q hq => ?_⟩
  unfold cL at hq
  obtain ⟨q0, h0, rfl⟩ := List.mem_map.mp hq
  exact h.2.2 _ (hs q0 h0)
theorem st1_sub {ad : Nat → Nat} {loc : List (Nat × AV)} {i : Nat} {v : AV} : ∀ q ∈ st1 loc i v, (q.1, cV ad q.2) ∈ (i, cV ad v) :: (cL ad loc).filter (fun q => !(q.1 == i) && !(q.1 + 1 == i && q.2.category == 2)) := by
  intro q hq
  rcases mem_insL hq with rfl | h
  · exact List.mem_cons_self
  · refine List.mem_cons_of_mem _ ?_
    obtain ⟨h1, h2⟩ := List.mem_filter.mp h
    refine List.mem_filter.mpr ⟨List.mem_map.mpr ⟨q, h1, rfl⟩, ?_⟩
    show (!(q.1 == i) && !(q.1 + 1 == i && (cV ad q.2).category == 2)) = true
    rw [cV_cat2]
    exact h2
theorem st2_sub {ad : Nat → Nat} {loc : List (Nat × AV)} {i : Nat} {v : AV} : ∀ q ∈ st2 loc i v, (q.1, cV ad q.2) ∈ (i, cV ad v) :: (cL ad loc).filter (fun q => !(q.1 == i) && (!(q.1 == i + 1) && !(q.1 + 1 == i && q.2.category == 2))) := by
  intro q hq
  rcases mem_insL hq with rfl | h
  · exact List.mem_cons_self
  · refine List.mem_cons_of_mem _ ?_
    obtain ⟨h1, h2⟩ := List.mem_filter.mp h
    refine List.mem_filter.mpr ⟨List.mem_map.mpr ⟨q, h1, rfl⟩, ?_⟩
    show (!(q.1 == i) && (!(q.1 == i + 1) && !(q.1 + 1 == i && (cV ad q.2).category == 2))) = true
    rw [cV_cat2]
    exact h2
theorem wfL_st1 {loc : List (Nat × AV)} {i : Nat} {v : AV} (h : wfL loc) (hv : wfV v) : wfL (st1 loc i v) := by
  intro q hq
  rcases mem_insL hq with rfl | h1
  · exact hv
  · exact h q (List.mem_filter.mp h1).1
theorem wfL_st2 {loc : List (Nat × AV)} {i : Nat} {v : AV} (h : wfL loc) (hv : wfV v) : wfL (st2 loc i v) := by
  intro q hq
  rcases mem_insL hq with rfl | h1
  · exact hv
  · exact h q (List.mem_filter.mp h1).1
section RF
variable {X : Scr} {m : MR} {pc pc' : Nat} {loc loc' : List (Nat × AV)} {st st' : List AV} {M M' : Mem} {P : Option AV → Mem → Prop}
theorem Runs.istore_n {k : Fin 4} {i : Nat} {z : Int} (hd : decode m.2.1 pc = .ok (.istore_n k, 1)) (hi : (k : Nat) = i) (hn : i < m.2.2.1) (hl : st1 loc i (vi z) = loc') (kk : Runs X m (pc + 1) loc' st M P) : Runs X m pc loc (vi z :: st) M P := by
  refine Runs.lift (fun p l e R s mid args below meth c cells slots D cA ad A Q C w => ?_) kk
  intro hM hL hS ls H locs hlv hH
  subst hl
  exact lv_istore_n C.1 C.2.1 hd hi hlv hn rfl (fun ls' h' => w hM (wfL_st1 hL (wfS_h hS)) (wfS_t hS) ls' H locs (lv_mem h' st1_sub) hH)
theorem Runs.istore {i : Nat} {z : Int} (hd : decode m.2.1 pc = .ok (.istore i, 2)) (hn : i < m.2.2.1) (hl : st1 loc i (vi z) = loc') (kk : Runs X m (pc + 2) loc' st M P) : Runs X m pc loc (vi z :: st) M P := by
  refine Runs.lift (fun p l e R s mid args below meth c cells slots D cA ad A Q C w => ?_) kk
  intro hM hL hS ls H locs hlv hH
  subst hl
  exact lv_istore C.1 C.2.1 hd hlv hn rfl (fun ls' h' => w hM (wfL_st1 hL (wfS_h hS)) (wfS_t hS) ls' H locs (lv_mem h' st1_sub) hH)
theorem Runs.lstore_n {k : Fin 4} {i : Nat} {z : Int} (hd : decode m.2.1 pc = .ok (.lstore_n k, 1)) (hi : (k : Nat) = i) (hn : i + 1 < m.2.2.1) (hl : st2 loc i (vl z) = loc') (kk : Runs X m (pc + 1) loc' st M P) : Runs X m pc loc (vl z :: st) M P := by
  refine Runs.lift (fun p l e R s mid args below meth c cells slots D cA ad A Q C w => ?_) kk
  intro hM hL hS ls H locs hlv hH
  subst hl
  exact lv_lstore_n C.1 C.2.1 hd hi hlv hn rfl (fun ls' h' => w hM (wfL_st2 hL (wfS_h hS)) (wfS_t hS) ls' H locs (lv_mem h' st2_sub) hH)
theorem Runs.lstore {i : Nat} {z : Int} (hd : decode m.2.1 pc = .ok (.lstore i, 2)) (hn : i + 1 < m.2.2.1) (hl : st2 loc i (vl z) = loc') (kk : Runs X m (pc + 2) loc' st M P) : Runs X m pc loc (vl z :: st) M P := by
  refine Runs.lift (fun p l e R s mid args below meth c cells slots D cA ad A Q C w => ?_) kk
  intro hM hL hS ls H locs hlv hH
  subst hl
  exact lv_lstore C.1 C.2.1 hd hlv hn rfl (fun ls' h' => w hM (wfL_st2 hL (wfS_h hS)) (wfS_t hS) ls' H locs (lv_mem h' st2_sub) hH)
theorem Runs.iinc {i k : Nat} {n z : Int} (hd : decode m.2.1 pc = .ok (.iinc i n, 3)) (hk : loc[k]? = some (i, vi z)) (hr : inI (z + n)) (hn : i < m.2.2.1) (hl : st1 loc i (vi (z + n)) = loc') (kk : Runs X m (pc + 3) loc' st M P) : Runs X m pc loc st M P := by
  refine Runs.lift (fun p l e R s mid args below meth c cells slots D cA ad A Q C w => ?_) kk
  intro hM hL hS ls H locs hlv hH
  subst hl
  exact lv_iinc (v := Int32.ofInt (z + n)) C.1 C.2.1 hd hlv (cL_at hk) (by rw [Int32.ofInt_add]) hn rfl (fun ls' h' => w hM (wfL_st1 hL (show inI (z + n) from hr)) hS ls' H locs (lv_mem h' st1_sub) hH)
-- ===== jumps
theorem Runs.goto {off : Int} {tgt : Nat} (hd : decode m.2.1 pc = .ok (.goto off, 3)) (ht : (pc : Int) + off = (tgt : Int)) (kk : Runs X m tgt loc st M P) : Runs X m pc loc st M P := by
  refine Runs.lift (fun p l e R s mid args below meth c cells slots D cA ad A Q C w => ?_) kk
  intro hM hL hS ls H locs hlv hH
  exact lv_goto C.1 C.2.1 hd ht (w hM hL hS ls H locs hlv hH)
theorem Runs.ifnull {o : Nat} {off : Int} (hd : decode m.2.1 pc = .ok (.ifnull off, 3)) (kk : Runs X m (pc + 3) loc st M P) : Runs X m pc loc (vr o :: st) M P := by
  refine Runs.lift (fun p l e R s mid args below meth c cells slots D cA ad A Q C w => ?_) kk
  intro hM hL hS ls H locs hlv hH
  exact lv_ifnull C.1 C.2.1 hd (w hM hL (wfS_t hS) ls H locs hlv hH)
theorem Runs.ifnonnull {o : Nat} {off : Int} {tgt : Nat} (hd : decode m.2.1 pc = .ok (.ifnonnull off, 3)) (ht : (pc : Int) + off = (tgt : Int)) (kk : Runs X m tgt loc st M P) : Runs X m pc loc (vr o :: st) M P := by
  refine Runs.lift (fun p l e R s mid args below meth c cells slots D cA ad A Q C w => ?_) kk
  intro hM hL hS ls H locs hlv hH
  exact lv_ifnonnull C.1 C.2.1 hd ht (w hM hL (wfS_t hS) ls H locs hlv hH)
/-- two ways on, of which one is taken -/
theorem Runs.two {c1 : Prop} {pa pb : Nat} {sa : List AV} (h : ∀ (p : Program) (l : Launch) (e : Env) (R : Room) (s : State) (mid : MethodId) (args : Array Value) (below : List Frame) (meth : Method) (c : Code) (cells slots : Nat) (D : va_G) (cA : FieldType → ClassId) (ad : Nat → Nat) (A : Nat → Prop) (Q : State → Prop), Ctx X m p R s mid args c cells slots D cA ad A → (c1 → WS m.2.2.1 p l e R s mid args below meth c cells slots D cA ad A Q pa loc sa M) → (¬ c1 → WS m.2.2.1 p l e R s mid args below meth c cells slots D cA ad A Q pb loc sa M) → WS m.2.2.1 p l e R s mid args below meth c cells slots D cA ad A Q pc loc st M) (ka : c1 → Runs X m pa loc sa M P) (kb : ¬ c1 → Runs X m pb loc sa M P) : Runs X m pc loc st M P :=
  fun p l e R s mid args below meth c cells slots D cA ad A Q C F => h p l e R s mid args below meth c cells slots D cA ad A Q C (fun q => ka q p l e R s mid args below meth c cells slots D cA ad A Q C F) (fun q => kb q p l e R s mid args below meth c cells slots D cA ad A Q C F)
theorem i32_e0 {a : Int} (ha : inI a) : Int32.ofInt a = 0 ↔ a = 0 := by rw [← i32_0, i32_eq ha (by decide)]
theorem i32_l0 {a : Int} (ha : inI a) : Int32.ofInt a < 0 ↔ a < 0 := by rw [← i32_0, i32_lt ha (by decide)]
theorem i32_g0 {a : Int} (ha : inI a) : 0 < Int32.ofInt a ↔ 0 < a := by rw [← i32_0, i32_lt (by decide) ha]
theorem i32_le0 {a : Int} (ha : inI a) : Int32.ofInt a ≤ 0 ↔ a ≤ 0 := by rw [← i32_0, i32_le ha (by decide)]
theorem i32_ge0 {a : Int} (ha : inI a) : 0 ≤ Int32.ofInt a ↔ 0 ≤ a := by rw [← i32_0, i32_le (by decide) ha]
theorem Runs.if_eq {a : Int} {off : Int} {tgt : Nat} (hd : decode m.2.1 pc = .ok (.ifCond .eq off, 3)) (ht : (pc : Int) + off = (tgt : Int)) (k1 : a = 0 → Runs X m tgt loc st M P) (k2 : a ≠ 0 → Runs X m (pc + 3) loc st M P) : Runs X m pc loc (vi a :: st) M P := by
  refine Runs.two (c1 := a = 0) (fun p l e R s mid args below meth c cells slots D cA ad A Q C w1 w2 => ?_) k1 k2
  intro hM hL hS ls H locs hlv hH
  have ha : inI a := wfS_h hS
  exact lv_if_eq C.1 C.2.1 hd ht (fun h => w1 ((i32_e0 ha).mp h) hM hL (wfS_t hS) ls H locs hlv hH) (fun h => w2 (fun q => h ((i32_e0 ha).mpr q)) hM hL (wfS_t hS) ls H locs hlv hH)
theorem Runs.if_ne {a : Int} {off : Int} {tgt : Nat} (hd : decode m.2.1 pc = .ok (.ifCond .ne off, 3)) (ht : (pc : Int) + off = (tgt : Int)) (k1 : a ≠ 0 → Runs X m tgt loc st M P) (k2 : a = 0 → Runs X m (pc + 3) loc st M P) : Runs X m pc loc (vi a :: st) M P := by
  refine Runs.two (c1 := a ≠ 0) (fun p l e R s mid args below meth c cells slots D cA ad A Q C w1 w2 => ?_) k1 (fun h => k2 (Classical.not_not.mp h))
  intro hM hL hS ls H locs hlv hH
  have ha : inI a := wfS_h hS
  exact lv_if_ne C.1 C.2.1 hd ht (fun h => w1 (fun q => h ((i32_e0 ha).mpr q)) hM hL (wfS_t hS) ls H locs hlv hH) (fun h => w2 (fun q => q ((i32_e0 ha).mp h)) hM hL (wfS_t hS) ls H locs hlv hH)
theorem Runs.if_lt {a : Int} {off : Int} {tgt : Nat} (hd : decode m.2.1 pc = .ok (.ifCond .lt off, 3)) (ht : (pc : Int) + off = (tgt : Int)) (k1 : a < 0 → Runs X m tgt loc st M P) (k2 : 0 ≤ a → Runs X m (pc + 3) loc st M P) : Runs X m pc loc (vi a :: st) M P := by
  refine Runs.two (c1 := a < 0) (fun p l e R s mid args below meth c cells slots D cA ad A Q C w1 w2 => ?_) k1 (fun h => k2 (by omega))
  intro hM hL hS ls H locs hlv hH
  have ha : inI a := wfS_h hS
  exact lv_if_lt C.1 C.2.1 hd ht (fun h => w1 ((i32_l0 ha).mp h) hM hL (wfS_t hS) ls H locs hlv hH) (fun h => w2 (fun q => h ((i32_l0 ha).mpr q)) hM hL (wfS_t hS) ls H locs hlv hH)
theorem Runs.if_ge {a : Int} {off : Int} {tgt : Nat} (hd : decode m.2.1 pc = .ok (.ifCond .ge off, 3)) (ht : (pc : Int) + off = (tgt : Int)) (k1 : 0 ≤ a → Runs X m tgt loc st M P) (k2 : a < 0 → Runs X m (pc + 3) loc st M P) : Runs X m pc loc (vi a :: st) M P := by
  refine Runs.two (c1 := 0 ≤ a) (fun p l e R s mid args below meth c cells slots D cA ad A Q C w1 w2 => ?_) k1 (fun h => k2 (by omega))
  intro hM hL hS ls H locs hlv hH
  have ha : inI a := wfS_h hS
  exact lv_if_ge C.1 C.2.1 hd ht (fun h => w1 ((i32_ge0 ha).mp h) hM hL (wfS_t hS) ls H locs hlv hH) (fun h => w2 (fun q => h ((i32_ge0 ha).mpr q)) hM hL (wfS_t hS) ls H locs hlv hH)
theorem Runs.if_gt {a : Int} {off : Int} {tgt : Nat} (hd : decode m.2.1 pc = .ok (.ifCond .gt off, 3)) (ht : (pc : Int) + off = (tgt : Int)) (k1 : 0 < a → Runs X m tgt loc st M P) (k2 : a ≤ 0 → Runs X m (pc + 3) loc st M P) : Runs X m pc loc (vi a :: st) M P := by
  refine Runs.two (c1 := 0 < a) (fun p l e R s mid args below meth c cells slots D cA ad A Q C w1 w2 => ?_) k1 (fun h => k2 (by omega))
  intro hM hL hS ls H locs hlv hH
  have ha : inI a := wfS_h hS
  exact lv_if_gt C.1 C.2.1 hd ht (fun h => w1 ((i32_g0 ha).mp h) hM hL (wfS_t hS) ls H locs hlv hH) (fun h => w2 (fun q => h ((i32_g0 ha).mpr q)) hM hL (wfS_t hS) ls H locs hlv hH)
theorem Runs.if_le {a : Int} {off : Int} {tgt : Nat} (hd : decode m.2.1 pc = .ok (.ifCond .le off, 3)) (ht : (pc : Int) + off = (tgt : Int)) (k1 : a ≤ 0 → Runs X m tgt loc st M P) (k2 : 0 < a → Runs X m (pc + 3) loc st M P) : Runs X m pc loc (vi a :: st) M P := by
  refine Runs.two (c1 := a ≤ 0) (fun p l e R s mid args below meth c cells slots D cA ad A Q C w1 w2 => ?_) k1 (fun h => k2 (by omega))
  intro hM hL hS ls H locs hlv hH
  have ha : inI a := wfS_h hS
  exact lv_if_le C.1 C.2.1 hd ht (fun h => w1 ((i32_le0 ha).mp h) hM hL (wfS_t hS) ls H locs hlv hH) (fun h => w2 (fun q => h ((i32_le0 ha).mpr q)) hM hL (wfS_t hS) ls H locs hlv hH)
theorem Runs.icmp_eq {a b : Int} {off : Int} {tgt : Nat} (hd : decode m.2.1 pc = .ok (.if_icmp .eq off, 3)) (ht : (pc : Int) + off = (tgt : Int)) (k1 : a = b → Runs X m tgt loc st M P) (k2 : a ≠ b → Runs X m (pc + 3) loc st M P) : Runs X m pc loc (vi b :: vi a :: st) M P := by
  refine Runs.two (c1 := a = b) (fun p l e R s mid args below meth c cells slots D cA ad A Q C w1 w2 => ?_) k1 k2
  intro hM hL hS ls H locs hlv hH
  have hb : inI b := wfS_h hS
  have ha : inI a := wfS_h (wfS_t hS)
  exact lv_icmp_eq C.1 C.2.1 hd ht (fun h => w1 ((i32_eq ha hb).mp h) hM hL (wfS_t (wfS_t hS)) ls H locs hlv hH) (fun h => w2 (fun q => h ((i32_eq ha hb).mpr q)) hM hL (wfS_t (wfS_t hS)) ls H locs hlv hH)
theorem Runs.icmp_ne {a b : Int} {off : Int} {tgt : Nat} (hd : decode m.2.1 pc = .ok (.if_icmp .ne off, 3)) (ht : (pc : Int) + off = (tgt : Int)) (k1 : a ≠ b → Runs X m tgt loc st M P) (k2 : a = b → Runs X m (pc + 3) loc st M P) : Runs X m pc loc (vi b :: vi a :: st) M P := by
  refine Runs.two (c1 := a ≠ b) (fun p l e R s mid args below meth c cells slots D cA ad A Q C w1 w2 => ?_) k1 (fun h => k2 (Classical.not_not.mp h))
  intro hM hL hS ls H locs hlv hH
  have hb : inI b := wfS_h hS
  have ha : inI a := wfS_h (wfS_t hS)
  exact lv_icmp_ne C.1 C.2.1 hd ht (fun h => w1 (fun q => h ((i32_eq ha hb).mpr q)) hM hL (wfS_t (wfS_t hS)) ls H locs hlv hH) (fun h => w2 (fun q => q ((i32_eq ha hb).mp h)) hM hL (wfS_t (wfS_t hS)) ls H locs hlv hH)
theorem Runs.icmp_lt {a b : Int} {off : Int} {tgt : Nat} (hd : decode m.2.1 pc = .ok (.if_icmp .lt off, 3)) (ht : (pc : Int) + off = (tgt : Int)) (k1 : a < b → Runs X m tgt loc st M P) (k2 : b ≤ a → Runs X m (pc + 3) loc st M P) : Runs X m pc loc (vi b :: vi a :: st) M P := by
  refine Runs.two (c1 := a < b) (fun p l e R s mid args below meth c cells slots D cA ad A Q C w1 w2 => ?_) k1 (fun h => k2 (by omega))
  intro hM hL hS ls H locs hlv hH
  have hb : inI b := wfS_h hS
  have ha : inI a := wfS_h (wfS_t hS)
  exact lv_icmp_lt C.1 C.2.1 hd ht (fun h => w1 ((i32_lt ha hb).mp h) hM hL (wfS_t (wfS_t hS)) ls H locs hlv hH) (fun h => w2 (fun q => h ((i32_lt ha hb).mpr q)) hM hL (wfS_t (wfS_t hS)) ls H locs hlv hH)
theorem Runs.icmp_ge {a b : Int} {off : Int} {tgt : Nat} (hd : decode m.2.1 pc = .ok (.if_icmp .ge off, 3)) (ht : (pc : Int) + off = (tgt : Int)) (k1 : b ≤ a → Runs X m tgt loc st M P) (k2 : a < b → Runs X m (pc + 3) loc st M P) : Runs X m pc loc (vi b :: vi a :: st) M P := by
  refine Runs.two (c1 := b ≤ a) (fun p l e R s mid args below meth c cells slots D cA ad A Q C w1 w2 => ?_) k1 (fun h => k2 (by omega))
  intro hM hL hS ls H locs hlv hH
  have hb : inI b := wfS_h hS
  have ha : inI a := wfS_h (wfS_t hS)
  exact lv_icmp_ge C.1 C.2.1 hd ht (fun h => w1 ((i32_le hb ha).mp h) hM hL (wfS_t (wfS_t hS)) ls H locs hlv hH) (fun h => w2 (fun q => h ((i32_le hb ha).mpr q)) hM hL (wfS_t (wfS_t hS)) ls H locs hlv hH)
theorem Runs.icmp_gt {a b : Int} {off : Int} {tgt : Nat} (hd : decode m.2.1 pc = .ok (.if_icmp .gt off, 3)) (ht : (pc : Int) + off = (tgt : Int)) (k1 : b < a → Runs X m tgt loc st M P) (k2 : a ≤ b → Runs X m (pc + 3) loc st M P) : Runs X m pc loc (vi b :: vi a :: st) M P := by
  refine Runs.two (c1 := b < a) (fun p l e R s mid args below meth c cells slots D cA ad A Q C w1 w2 => ?_) k1 (fun h => k2 (by omega))
  intro hM hL hS ls H locs hlv hH
  have hb : inI b := wfS_h hS
  have ha : inI a := wfS_h (wfS_t hS)
  exact lv_icmp_gt C.1 C.2.1 hd ht (fun h => w1 ((i32_lt hb ha).mp h) hM hL (wfS_t (wfS_t hS)) ls H locs hlv hH) (fun h => w2 (fun q => h ((i32_lt hb ha).mpr q)) hM hL (wfS_t (wfS_t hS)) ls H locs hlv hH)
theorem Runs.icmp_le {a b : Int} {off : Int} {tgt : Nat} (hd : decode m.2.1 pc = .ok (.if_icmp .le off, 3)) (ht : (pc : Int) + off = (tgt : Int)) (k1 : a ≤ b → Runs X m tgt loc st M P) (k2 : b < a → Runs X m (pc + 3) loc st M P) : Runs X m pc loc (vi b :: vi a :: st) M P := by
  refine Runs.two (c1 := a ≤ b) (fun p l e R s mid args below meth c cells slots D cA ad A Q C w1 w2 => ?_) k1 (fun h => k2 (by omega))
  intro hM hL hS ls H locs hlv hH
  have hb : inI b := wfS_h hS
  have ha : inI a := wfS_h (wfS_t hS)
  exact lv_icmp_le C.1 C.2.1 hd ht (fun h => w1 ((i32_le ha hb).mp h) hM hL (wfS_t (wfS_t hS)) ls H locs hlv hH) (fun h => w2 (fun q => h ((i32_le ha hb).mpr q)) hM hL (wfS_t (wfS_t hS)) ls H locs hlv hH)
-- ===== longs compared, and the branch on it
def zcmp (a b : Int) : Int := if b < a then 1 else if a = b then 0 else -1
theorem Runs.lcmp {a b : Int} (hd : decode m.2.1 pc = .ok (.lcmp, 1)) (kk : Runs X m (pc + 1) loc (vi (zcmp a b) :: st) M P) : Runs X m pc loc (vl b :: vl a :: st) M P := by
  refine Runs.lift (fun p l e R s mid args below meth c cells slots D cA ad A Q C w => ?_) kk
  intro hM hL hS ls H locs hlv hH
  have hb : inL b := wfS_h hS
  have ha : inL a := wfS_h (wfS_t hS)
  have hz : inI (zcmp a b) := by unfold zcmp; split <;> (try split) <;> decide
  have k := w hM hL (wfS_c (show wfV (vi (zcmp a b)) from hz) (wfS_t (wfS_t hS))) ls H locs hlv hH
  refine W.lcmp C.1 C.2.1 hd ?_
  have e : lg_cmp (Int64.ofInt a) (Int64.ofInt b) = Int32.ofInt (zcmp a b) := by
    unfold lg_cmp zcmp
    simp only [gt_iff_lt, i64_lt hb ha, i64_eq ha hb]
    split
    · rfl
    · split <;> rfl
  rw [e]; exact k
theorem zcmp_lt {a b : Int} : zcmp a b < 0 ↔ a < b := by unfold zcmp; split <;> (try split) <;> omega
theorem zcmp_le {a b : Int} : zcmp a b ≤ 0 ↔ a ≤ b := by unfold zcmp; split <;> (try split) <;> omega
theorem zcmp_gt {a b : Int} : 0 < zcmp a b ↔ b < a := by unfold zcmp; split <;> (try split) <;> omega
theorem zcmp_ge {a b : Int} : 0 ≤ zcmp a b ↔ b ≤ a := by unfold zcmp; split <;> (try split) <;> omega
theorem zcmp_eq {a b : Int} : zcmp a b = 0 ↔ a = b := by unfold zcmp; split <;> (try split) <;> omega
theorem Runs.lcmp_lt {a b : Int} {off : Int} {tgt : Nat} (hd : decode m.2.1 pc = .ok (.lcmp, 1)) (hd2 : decode m.2.1 (pc + 1) = .ok (.ifCond .lt off, 3)) (ht : ((pc + 1 : Nat) : Int) + off = (tgt : Int)) (k1 : a < b → Runs X m tgt loc st M P) (k2 : b ≤ a → Runs X m (pc + 4) loc st M P) : Runs X m pc loc (vl b :: vl a :: st) M P :=
  Runs.lcmp hd (Runs.if_lt hd2 ht (fun h => k1 (zcmp_lt.mp h)) (fun h => k2 (zcmp_ge.mp h)))
theorem Runs.lcmp_ge {a b : Int} {off : Int} {tgt : Nat} (hd : decode m.2.1 pc = .ok (.lcmp, 1)) (hd2 : decode m.2.1 (pc + 1) = .ok (.ifCond .ge off, 3)) (ht : ((pc + 1 : Nat) : Int) + off = (tgt : Int)) (k1 : b ≤ a → Runs X m tgt loc st M P) (k2 : a < b → Runs X m (pc + 4) loc st M P) : Runs X m pc loc (vl b :: vl a :: st) M P :=
  Runs.lcmp hd (Runs.if_ge hd2 ht (fun h => k1 (zcmp_ge.mp h)) (fun h => k2 (zcmp_lt.mp h)))
theorem Runs.lcmp_gt {a b : Int} {off : Int} {tgt : Nat} (hd : decode m.2.1 pc = .ok (.lcmp, 1)) (hd2 : decode m.2.1 (pc + 1) = .ok (.ifCond .gt off, 3)) (ht : ((pc + 1 : Nat) : Int) + off = (tgt : Int)) (k1 : b < a → Runs X m tgt loc st M P) (k2 : a ≤ b → Runs X m (pc + 4) loc st M P) : Runs X m pc loc (vl b :: vl a :: st) M P :=
  Runs.lcmp hd (Runs.if_gt hd2 ht (fun h => k1 (zcmp_gt.mp h)) (fun h => k2 (zcmp_le.mp h)))
theorem Runs.lcmp_le {a b : Int} {off : Int} {tgt : Nat} (hd : decode m.2.1 pc = .ok (.lcmp, 1)) (hd2 : decode m.2.1 (pc + 1) = .ok (.ifCond .le off, 3)) (ht : ((pc + 1 : Nat) : Int) + off = (tgt : Int)) (k1 : a ≤ b → Runs X m tgt loc st M P) (k2 : b < a → Runs X m (pc + 4) loc st M P) : Runs X m pc loc (vl b :: vl a :: st) M P :=
  Runs.lcmp hd (Runs.if_le hd2 ht (fun h => k1 (zcmp_le.mp h)) (fun h => k2 (zcmp_gt.mp h)))
theorem Runs.lcmp_eq {a b : Int} {off : Int} {tgt : Nat} (hd : decode m.2.1 pc = .ok (.lcmp, 1)) (hd2 : decode m.2.1 (pc + 1) = .ok (.ifCond .eq off, 3)) (ht : ((pc + 1 : Nat) : Int) + off = (tgt : Int)) (k1 : a = b → Runs X m tgt loc st M P) (k2 : a ≠ b → Runs X m (pc + 4) loc st M P) : Runs X m pc loc (vl b :: vl a :: st) M P :=
  Runs.lcmp hd (Runs.if_eq hd2 ht (fun h => k1 (zcmp_eq.mp h)) (fun h => k2 (fun q => h (zcmp_eq.mpr q))))
theorem Runs.lcmp_ne {a b : Int} {off : Int} {tgt : Nat} (hd : decode m.2.1 pc = .ok (.lcmp, 1)) (hd2 : decode m.2.1 (pc + 1) = .ok (.ifCond .ne off, 3)) (ht : ((pc + 1 : Nat) : Int) + off = (tgt : Int)) (k1 : a ≠ b → Runs X m tgt loc st M P) (k2 : a = b → Runs X m (pc + 4) loc st M P) : Runs X m pc loc (vl b :: vl a :: st) M P :=
  Runs.lcmp hd (Runs.if_ne hd2 ht (fun h => k1 (fun q => h (zcmp_eq.mpr q))) (fun h => k2 (zcmp_eq.mp h)))
-- ===== switches
theorem Runs.tableIn {dflt lo hi : Int} {offs : Array Int} {len : Nat} {a : Int} {off : Int} {tgt : Nat} (hd : decode m.2.1 pc = .ok (.tableswitch dflt lo hi offs, len)) (h1 : lo ≤ a) (h2 : a ≤ hi) (ho : offs[(a - lo).toNat]? = some off) (ht : (pc : Int) + off = (tgt : Int)) (kk : Runs X m tgt loc st M P) : Runs X m pc loc (vi a :: st) M P := by
  refine Runs.lift (fun p l e R s mid args below meth c cells slots D cA ad A Q C w => ?_) kk
  intro hM hL hS ls H locs hlv hH
  have ha : inI a := wfS_h hS
  exact lv_tableIn C.1 C.2.1 hd (by rw [i32_t ha]; omega) (by rw [i32_t ha]; omega) (by rw [i32_t ha]; exact ho) ht (w hM hL (wfS_t hS) ls H locs hlv hH)
theorem Runs.tableOut {dflt lo hi : Int} {offs : Array Int} {len : Nat} {a : Int} {tgt : Nat} (hd : decode m.2.1 pc = .ok (.tableswitch dflt lo hi offs, len)) (h : a < lo ∨ hi < a) (ht : (pc : Int) + dflt = (tgt : Int)) (kk : Runs X m tgt loc st M P) : Runs X m pc loc (vi a :: st) M P := by
  refine Runs.lift (fun p l e R s mid args below meth c cells slots D cA ad A Q C w => ?_) kk
  intro hM hL hS ls H locs hlv hH
  have ha : inI a := wfS_h hS
  exact lv_tableOut C.1 C.2.1 hd (by rw [i32_t ha]; exact h) ht (w hM hL (wfS_t hS) ls H locs hlv hH)
theorem Runs.lookup {dflt : Int} {ps : Array (Int × Int)} {len : Nat} {a : Int} {off : Int} {tgt : Nat} (hd : decode m.2.1 pc = .ok (.lookupswitch dflt ps, len)) (hp : (ps.toList.zip (ps.toList.drop 1)).all (fun (a, next) => a.1 < next.1) = true) (ho : Op.lookupswitch.offset ps.toList dflt a = off) (ht : (pc : Int) + off = (tgt : Int)) (kk : Runs X m tgt loc st M P) : Runs X m pc loc (vi a :: st) M P := by
  refine Runs.lift (fun p l e R s mid args below meth c cells slots D cA ad A Q C w => ?_) kk
  intro hM hL hS ls H locs hlv hH
  have ha : inI a := wfS_h hS
  exact lv_lookup C.1 C.2.1 hd hp (by rw [i32_t ha]; exact ho) ht (w hM hL (wfS_t hS) ls H locs hlv hH)
-- ===== returns
theorem Runs.ret0 (hd : decode m.2.1 pc = .ok (.return_, 1)) (hr : m.2.2.2.1 = none) (k : P none M) : Runs X m pc loc [] M P := by
  intro p l e R s mid args below meth c cells slots D cA ad A Q C F hM hL hS ls H locs hlv hH
  exact F none M H locs ls pc k hM (by rw [hr]; trivial) hH hd
theorem Runs.reti {z : Int} (hd : decode m.2.1 pc = .ok (.ireturn, 1)) (hr : m.2.2.2.1 = some .int) (k : P (some (vi z)) M) : Runs X m pc loc [vi z] M P := by
  intro p l e R s mid args below meth c cells slots D cA ad A Q C F hM hL hS ls H locs hlv hH
  exact F (some (vi z)) M H locs ls pc k hM (by rw [hr]; exact wfS_h hS) hH hd
theorem Runs.retz {z : Int} (hd : decode m.2.1 pc = .ok (.ireturn, 1)) (hr : m.2.2.2.1 = some .boolean) (hz : 0 ≤ z ∧ z ≤ 1) (k : P (some (vi z)) M) : Runs X m pc loc [vi z] M P := by
  intro p l e R s mid args below meth c cells slots D cA ad A Q C F hM hL hS ls H locs hlv hH
  exact F (some (vi z)) M H locs ls pc k hM (by rw [hr]; exact hz) hH hd
theorem Runs.retl {z : Int} (hd : decode m.2.1 pc = .ok (.lreturn, 1)) (hr : m.2.2.2.1 = some .long) (k : P (some (vl z)) M) : Runs X m pc loc [vl z] M P := by
  intro p l e R s mid args below meth c cells slots D cA ad A Q C F hM hL hS ls H locs hlv hH
  exact F (some (vl z)) M H locs ls pc k hM (by rw [hr]; exact wfS_h hS) hH hd
end RF
end
section
/-! ===== fields and arrays ===== -/
theorem ent_o {cA : FieldType → ClassId} {ad : Nat → Nat} {M : Mem} {o ci : Nat} (h : kd o = some (.inl ci)) : ent cA ad M o = .inr (ci, fdV ad M o ci) := by unfold ent; rw [h]
theorem ent_a {cA : FieldType → ClassId} {ad : Nat → Nat} {M : Mem} {o n : Nat} {ty : FieldType} (h : kd o = some (.inr (ty, n))) : ent cA ad M o = .inl (cA ty, n, arP ad M o ty) := by unfold ent; rw [h]
theorem fdV_at {ad : Nat → Nat} {M : Mem} {o ci j : Nat} (h : j < nFd ci) : (fdV ad M o ci)[j]? = some (cS ad (ftC ci j) (rfs o j) (M o j)) := by
  unfold fdV
  rw [List.getElem?_map, List.getElem?_range h]
  rfl
theorem fdV_len {ad : Nat → Nat} {M : Mem} {o ci : Nat} : (fdV ad M o ci).length = nFd ci := by unfold fdV; rw [List.length_map, List.length_range]
theorem fdV_set {ad : Nat → Nat} {M : Mem} {o ci j : Nat} {z : Int} (h : j < nFd ci) : (fdV ad M o ci).set j (cS ad (ftC ci j) (rfs o j) z) = fdV ad (up2 M o j z) o ci := by
  apply List.ext_getElem?
  intro k
  by_cases hk : k = j
  · subst hk
    rw [List.getElem?_set_self (by rw [fdV_len]; exact h), fdV_at h, up2_s]
  · rw [List.getElem?_set_ne (Ne.symm hk)]
    by_cases hl : k < nFd ci
    · rw [fdV_at hl, fdV_at hl]
      simp [up2, hk]
    · rw [List.getElem?_eq_none (by rw [fdV_len]; omega), List.getElem?_eq_none (by rw [fdV_len]; omega)]
theorem up2_ne {M : Mem} {o j : Nat} {z : Int} : ∀ o', o' ≠ o → ∀ k, up2 M o j z o' k = M o' k := fun o' h k => by simp [up2, h]
theorem wfM_up {M : Mem} {o j : Nat} {z : Int} (h : wfM M) (hz : inT (sty o j) z) : wfM (up2 M o j z) := by
  intro o' j'
  unfold up2
  split
  next q => rw [q.1, q.2]; exact hz
  next q => exact h o' j'
/-- a class of the world, by its place: its fields' names, and that the tables have its words -/
def clsOK (ci : Nat) (C : String) (T : u_T) (N : Nat) : Prop := vwCl[ci]? = some (C, T, N) ∧ (∀ w ∈ u_ws C T N, w ∈ TB) ∧ (∀ k, k < N → parseFieldDescriptor (T k).2.2.1 = some (ftC ci k)) ∧ (∀ a, a < N → ∀ b, b < N → a ≠ b → (T a).2.1 ≠ (T b).2.1)
theorem nFd_of {ci N : Nat} {C : String} {T : u_T} (h : clsOK ci C T N) : nFd ci = N := by unfold nFd; rw [h.1]
def plainT (ty : FieldType) : Bool := match ty with
  | .int => true
  | .boolean => true
  | .byte => true
  | .long => true
  | _ => false
theorem cS_int {ad : Nat → Nat} {ty : FieldType} {r : Option Nat} {z : Int} (h : ty = .int ∨ ty = .boolean ∨ ty = .byte) : cS ad ty r z = .int (Int32.ofInt z) := by rcases h with rfl | rfl | rfl <;> rfl
theorem nar_b {z : Int} (h : 0 ≤ z ∧ z ≤ 1) : Int32.ofInt z &&& 1 = Int32.ofInt z := by
  rcases (show z = 0 ∨ z = 1 by omega) with rfl | rfl <;> rfl
theorem nar_y {z : Int} (h : -128 ≤ z ∧ z ≤ 127) : (Int32.ofInt z).toInt8.toInt32 = Int32.ofInt z := by
  apply Int32.toInt_inj.mp
  rw [Int8.toInt_toInt32, Int32.toInt_toInt8, i32_t ⟨by omega, by omega⟩]
  exact Int.bmod_eq_of_le (by omega) (by omega)
theorem nar_ok {ad : Nat → Nat} {ty : FieldType} {r : Option Nat} {z : Int} (hp : plainT ty = true) (hz : inT ty z) : narrow ty (cS ad ty r z) = cS ad ty r z ∧ fits ty (cS ad ty r z) = true := by
  cases ty <;> first | (cases hp; done) | skip
  · refine ⟨?_, ?_⟩
    · show Value.int _ = Value.int _
      rw [nar_y hz]
    · show (decide ((-128 : Int32) ≤ Int32.ofInt z) && decide (Int32.ofInt z ≤ 127)) = true
      have h1 : inI z := ⟨by have := hz.1; omega, by have := hz.2; omega⟩
      have h2 : (-128 : Int32) ≤ Int32.ofInt z := by
        rw [show (-128 : Int32) = Int32.ofInt (-128) from rfl, i32_le (by decide) h1]; exact hz.1
      have h3 : Int32.ofInt z ≤ (127 : Int32) := by
        rw [show (127 : Int32) = Int32.ofInt 127 from rfl, i32_le h1 (by decide)]; exact hz.2
      simp [h2, h3]
  · exact ⟨rfl, rfl⟩
  · exact ⟨rfl, rfl⟩
  · refine ⟨?_, ?_⟩
    · show Value.int _ = Value.int _
      rw [nar_b hz]
    · rcases (show z = 0 ∨ z = 1 by have := hz.1; have := hz.2; omega) with rfl | rfl <;> rfl
section RH
variable {X : Scr} {m : MR} {pc pc' : Nat} {loc loc' : List (Nat × AV)} {st st' : List AV} {M M' : Mem} {P : Option AV → Mem → Prop}
theorem inI_of {ty : FieldType} {z : Int} (h : ty = .int ∨ ty = .boolean ∨ ty = .byte) (hz : inT ty z) : inI z := by
  rcases h with rfl | rfl | rfl
  · exact hz
  · exact ⟨by have := hz.1; omega, by have := hz.2; omega⟩
  · exact ⟨by have := hz.1; omega, by have := hz.2; omega⟩
/-- how a field is linked: as one's own, or as a nest mate's -/
def FL (own : String) (index : Nat) (C n d : String) : Prop := (Cond.fieldLink own index C n d ∈ TB) ∨ ∃ host, Cond.fieldLinkNest own index C n d host ∈ tables_1
theorem Runs.getf {o ci j index : Nat} {C : String} {T : u_T} {N : Nat} {v : AV} (hd : decode m.2.1 pc = .ok (.getfield index, 3)) (hk : kd o = some (.inl ci)) (hc : clsOK ci C T N) (hj : j < N) (hT : (T j).1 = C) (hl : FL m.1.cls index C (T j).2.1 (T j).2.2.1) (hv : ∀ (ad : Nat → Nat), cS ad (ftC ci j) (rfs o j) (M o j) = cV ad v) (hw : wfM M → wfV v) (kk : Runs X m (pc + 3) loc (v :: st) M P) : Runs X m pc loc (vr o :: st) M P := by
  refine Runs.lift (fun p l e R s mid args below meth c cells slots D cA ad A Q C0 w => ?_) kk
  intro hM hL hS ls H locs hlv hH
  have hz := w hM hL (wfS_c (hw hM) (wfS_t hS)) ls H locs hlv hH
  obtain ⟨i, hi⟩ := at_CO hk
  have he := at_wsO (cA := cA) (ad := ad) (M := M) hi
  rw [ent_o hk] at he
  have hf : (fdV ad M o ci)[j]? = some (cV ad v) := by rw [fdV_at (by rw [nFd_of hc]; exact hj), hv ad]
  rcases hl with hl | ⟨host, hl⟩
  · exact va_get C0.1 C0.2.1 (own := m.1.cls) (ref := C) C0.2.2.2.2.1 hc.2.1 C0.2.2.2.1 C0.2.2.2.2.2.2.1 hH.1 i he hc.1 j hj (C0.2.2.2.2.1 _ hl) (fun x hx => by rw [hT] at hx; exact hx) hf hd hz
  · exact va_getN C0.1 C0.2.1 (own := m.1.cls) (ref := C) (host := host) C0.2.2.2.2.1 hc.2.1 C0.2.2.2.1 C0.2.2.2.2.2.2.1 hH.1 i he hc.1 j hj (va_Nw.use rfl (C0.2.2.2.2.2.1 _ hl rfl)) (fun x hx => by rw [hT] at hx; exact hx) hf hd hz
theorem Runs.geti {o ci j index : Nat} {C : String} {T : u_T} {N : Nat} (hd : decode m.2.1 pc = .ok (.getfield index, 3)) (hk : kd o = some (.inl ci)) (hc : clsOK ci C T N) (hj : j < N) (hT : (T j).1 = C) (hl : FL m.1.cls index C (T j).2.1 (T j).2.2.1) (hy : ftC ci j = .int ∨ ftC ci j = .boolean ∨ ftC ci j = .byte) (kk : Runs X m (pc + 3) loc (vi (M o j) :: st) M P) : Runs X m pc loc (vr o :: st) M P :=
  Runs.getf hd hk hc hj hT hl (v := vi (M o j)) (fun ad => cS_int hy) (fun hM => inI_of hy (by have h := hM o j; unfold sty at h; rw [hk] at h; exact h)) kk
theorem Runs.getl {o ci j index : Nat} {C : String} {T : u_T} {N : Nat} (hd : decode m.2.1 pc = .ok (.getfield index, 3)) (hk : kd o = some (.inl ci)) (hc : clsOK ci C T N) (hj : j < N) (hT : (T j).1 = C) (hl : FL m.1.cls index C (T j).2.1 (T j).2.2.1) (hy : ftC ci j = .long) (kk : Runs X m (pc + 3) loc (vl (M o j) :: st) M P) : Runs X m pc loc (vr o :: st) M P :=
  Runs.getf hd hk hc hj hT hl (v := vl (M o j)) (fun ad => by rw [hy]; rfl) (fun hM => by have h := hM o j; unfold sty at h; rw [hk] at h; dsimp only at h; rw [hy] at h; exact h) kk
theorem Runs.getr {o ci j index o' : Nat} {C : String} {T : u_T} {N : Nat} (hd : decode m.2.1 pc = .ok (.getfield index, 3)) (hk : kd o = some (.inl ci)) (hc : clsOK ci C T N) (hj : j < N) (hT : (T j).1 = C) (hl : FL m.1.cls index C (T j).2.1 (T j).2.2.1) (hr : rfs o j = some o') (hy : plainT (ftC ci j) = false ∧ ∃ t, ftC ci j = .object t ∨ ∃ u, ftC ci j = .array u) (kk : Runs X m (pc + 3) loc (vr o' :: st) M P) : Runs X m pc loc (vr o :: st) M P :=
  Runs.getf hd hk hc hj hT hl (v := vr o') (fun ad => by
    rw [hr]
    obtain ⟨-, t, h | ⟨u, h⟩⟩ := hy <;> rw [h] <;> rfl) (fun _ => trivial) kk
theorem Runs.putf {o ci j index : Nat} {C : String} {T : u_T} {N : Nat} {z : Int} {v : AV} (hd : decode m.2.1 pc = .ok (.putfield index, 3)) (hk : kd o = some (.inl ci)) (hc : clsOK ci C T N) (hj : j < N) (hT : (T j).1 = C) (hl : FL m.1.cls index C (T j).2.1 (T j).2.2.1) (hf : (T j).2.2.2 = false) (hp : plainT (ftC ci j) = true) (hz : wfV v → inT (ftC ci j) z) (hv : ∀ ad : Nat → Nat, cS ad (ftC ci j) (rfs o j) z = cV ad v) (kk : Runs X m (pc + 3) loc st (up2 M o j z) P) : Runs X m pc loc (v :: vr o :: st) M P := by
  refine Runs.lift (fun p l e R s mid args below meth c cells slots D cA ad A Q C0 w => ?_) kk
  intro hM hL hS ls H locs hlv hH
  have hzz := hz (wfS_h hS)
  obtain ⟨i, hi⟩ := at_CO hk
  have he := at_wsO (cA := cA) (ad := ad) (M := M) hi
  rw [ent_o hk] at he
  obtain ⟨hn, hfit⟩ := nar_ok (ad := ad) (r := rfs o j) hp hzz
  have hj2 : j < nFd ci := by rw [nFd_of hc]; exact hj
  have hset : (wsO cA ad M).set i (ad o, .inr (ci, (fdV ad M o ci).set j (cV ad v))) = wsO cA ad (up2 M o j z) := by
    rw [← hv ad, fdV_set hj2, ← ent_o (cA := cA) hk]
    exact set_wsO hi up2_ne
  have hwf : wfM (up2 M o j z) := wfM_up hM (by unfold sty; rw [hk]; exact hzz)
  have go : ∀ (H1 : Heap) (locs1 : List Loc), va_P D vwCl ((wsO cA ad M).set i (ad o, .inr (ci, (fdV ad M o ci).set j (cV ad v)))) H1 → va_D A ((wsO cA ad M).set i (ad o, .inr (ci, (fdV ad M o ci).set j (cV ad v)))) → va_S A s.heap H1 locs1 → W p l e R s mid args below meth c H1 locs1 cells slots Q (F0 mid (pc + 3) ls (st.map (cV ad))) := by
    intro H1 locs1 hP1 hD1 hS1
    rw [hset] at hP1 hD1
    exact w hwf hL (wfS_t (wfS_t hS)) ls H1 locs1 hlv ⟨hP1, hD1, hS1⟩
  rw [hv ad] at hn hfit
  rcases hl with hl | ⟨host, hl⟩
  · exact va_put C0.1 C0.2.1 (own := m.1.cls) (ref := C) C0.2.2.2.2.1 hc.2.1 (ftC ci) hc.2.2.1 hc.2.2.2 C0.2.2.2.1 C0.2.2.2.2.2.2.1 hH.1 hH.2.1 hH.2.2 i he hc.1 j hj (C0.2.2.2.2.1 _ hl) (fun x hx => by rw [hT] at hx; exact hx) hf (hc.2.2.1 j hj) hn hfit (by rw [fdV_len]; exact hj2) hd go
  · exact va_putN C0.1 C0.2.1 (own := m.1.cls) (ref := C) (host := host) C0.2.2.2.2.1 hc.2.1 (ftC ci) hc.2.2.1 hc.2.2.2 C0.2.2.2.1 C0.2.2.2.2.2.2.1 hH.1 hH.2.1 hH.2.2 i he hc.1 j hj (va_Nw.use rfl (C0.2.2.2.2.2.1 _ hl rfl)) (fun x hx => by rw [hT] at hx; exact hx) hf (hc.2.2.1 j hj) hn hfit (by rw [fdV_len]; exact hj2) hd go
theorem Runs.puti {o ci j index : Nat} {C : String} {T : u_T} {N : Nat} {z : Int} (hd : decode m.2.1 pc = .ok (.putfield index, 3)) (hk : kd o = some (.inl ci)) (hc : clsOK ci C T N) (hj : j < N) (hT : (T j).1 = C) (hl : FL m.1.cls index C (T j).2.1 (T j).2.2.1) (hf : (T j).2.2.2 = false) (hy : ftC ci j = .int) (kk : Runs X m (pc + 3) loc st (up2 M o j z) P) : Runs X m pc loc (vi z :: vr o :: st) M P :=
  Runs.putf hd hk hc hj hT hl hf (by rw [hy]; rfl) (fun h => by rw [hy]; exact h) (fun ad => cS_int (Or.inl hy)) kk
theorem Runs.putz {o ci j index : Nat} {C : String} {T : u_T} {N : Nat} {z : Int} (hd : decode m.2.1 pc = .ok (.putfield index, 3)) (hk : kd o = some (.inl ci)) (hc : clsOK ci C T N) (hj : j < N) (hT : (T j).1 = C) (hl : FL m.1.cls index C (T j).2.1 (T j).2.2.1) (hf : (T j).2.2.2 = false) (hy : ftC ci j = .boolean) (hz : 0 ≤ z ∧ z ≤ 1) (kk : Runs X m (pc + 3) loc st (up2 M o j z) P) : Runs X m pc loc (vi z :: vr o :: st) M P :=
  Runs.putf hd hk hc hj hT hl hf (by rw [hy]; rfl) (fun _ => by rw [hy]; exact hz) (fun ad => cS_int (Or.inr (Or.inl hy))) kk
theorem Runs.putl {o ci j index : Nat} {C : String} {T : u_T} {N : Nat} {z : Int} (hd : decode m.2.1 pc = .ok (.putfield index, 3)) (hk : kd o = some (.inl ci)) (hc : clsOK ci C T N) (hj : j < N) (hT : (T j).1 = C) (hl : FL m.1.cls index C (T j).2.1 (T j).2.2.1) (hf : (T j).2.2.2 = false) (hy : ftC ci j = .long) (kk : Runs X m (pc + 3) loc st (up2 M o j z) P) : Runs X m pc loc (vl z :: vr o :: st) M P :=
  Runs.putf hd hk hc hj hT hl hf (by rw [hy]; rfl) (fun h => by rw [hy]; exact h) (fun ad => by rw [hy]; rfl) kk
-- ===== arrays
theorem in_ix {i : Int} {n : Nat} (h0 : 0 ≤ i) (h1 : i < n) (hi : inI i) : vp_in (Int32.ofInt i) n := by
  rw [vp_in_iff, i32_t hi]
  exact ⟨h0, h1⟩
theorem cl_ix {i : Int} (h0 : 0 ≤ i) (hi : inI i) : (Int32.ofInt i).toNatClampNeg = i.toNat := by
  rw [Int32.toNatClampNeg_ofInt_of_le (by omega) (by omega)]
theorem ty_at {cA : FieldType → ClassId} {ty : FieldType} (h : ty = .byte ∨ ty = .int ∨ ty = .boolean ∨ ty = tyS ∨ ty = tyT) : ∃ t : Nat, (tysO cA)[t]? = some (cA ty, ty) := by
  rcases h with rfl | rfl | rfl | rfl | rfl
  · exact ⟨0, rfl⟩
  · exact ⟨1, rfl⟩
  · exact ⟨2, rfl⟩
  · exact ⟨3, rfl⟩
  · exact ⟨4, rfl⟩
theorem kd_ty {o n : Nat} {ty : FieldType} (h : kd o = some (.inr (ty, n))) : ty = .byte ∨ ty = .int ∨ ty = .boolean ∨ ty = tyS ∨ ty = tyT := by
  unfold kd at h
  split at h
  · split at h
    · cases h
    · simp only [Option.some.injEq, Sum.inr.injEq, Prod.mk.injEq] at h
      exact Or.inr (Or.inl h.1.symm)
  · unfold kdT at h
    split at h <;> first | (cases h; done) | (simp only [Option.some.injEq, Sum.inr.injEq, Prod.mk.injEq] at h; obtain ⟨rfl, rfl⟩ := h; simp)
theorem Runs.alen {o n : Nat} {ty : FieldType} (hd : decode m.2.1 pc = .ok (.arraylength, 1)) (hk : kd o = some (.inr (ty, n))) (hn : n < 2147483648) (kk : Runs X m (pc + 1) loc (vi (n : Int) :: st) M P) : Runs X m pc loc (vr o :: st) M P := by
  refine Runs.lift (fun p l e R s mid args below meth c cells slots D cA ad A Q C0 w => ?_) kk
  intro hM hL hS ls H locs hlv hH
  obtain ⟨i, hi⟩ := at_CO hk
  have he := at_wsO (cA := cA) (ad := ad) (M := M) hi
  rw [ent_a hk] at he
  obtain ⟨t, ht⟩ := ty_at (cA := cA) (kd_ty hk)
  exact va_alen C0.1 C0.2.1 C0.2.2.2.2.2.2.1 hH.1 i t he ht (v := Int32.ofInt (n : Int)) (by rw [Int32.ofInt_eq_ofNat]) hd (w hM hL (wfS_c (show inI (n : Int) from ⟨by omega, by omega⟩) (wfS_t hS)) ls H locs hlv hH)
theorem arP_i {ad : Nat → Nat} {M : Mem} {o : Nat} {ty : FieldType} (h : ty = .int ∨ ty = .boolean ∨ ty = .byte) : arP ad M o ty = .inl (fun j => Int32.ofInt (M o j)) := by rcases h with rfl | rfl | rfl <;> rfl
theorem sty_a {o n j : Nat} {ty : FieldType} (hk : kd o = some (.inr (ty, n))) : sty o j = ty := by unfold sty; rw [hk]
theorem Runs.iald {o n : Nat} {i : Int} (hd : decode m.2.1 pc = .ok (.iaload, 1)) (hk : kd o = some (.inr (.int, n))) (h0 : 0 ≤ i) (h1 : i < n) (kk : Runs X m (pc + 1) loc (vi (M o i.toNat) :: st) M P) : Runs X m pc loc (vi i :: vr o :: st) M P := by
  refine Runs.lift (fun p l e R s mid args below meth c cells slots D cA ad A Q C0 w => ?_) kk
  intro hM hL hS ls H locs hlv hH
  have hi0 : inI i := wfS_h hS
  obtain ⟨q, hq⟩ := at_CO hk
  have he := at_wsO (cA := cA) (ad := ad) (M := M) hq
  rw [ent_a hk, arP_i (Or.inl rfl)] at he
  obtain ⟨t, ht⟩ := ty_at (cA := cA) (kd_ty hk)
  have k := w hM hL (wfS_c (v := vi (M o i.toNat)) (by have h := hM o i.toNat; rw [sty_a hk] at h; exact h) (wfS_t (wfS_t hS))) ls H locs hlv hH
  refine va_iald C0.1 C0.2.1 C0.2.2.2.2.2.2.1 hH.1 q t he ht (in_ix h0 h1 hi0) hd ?_
  rw [cl_ix h0 hi0]
  exact k
theorem Runs.bald {o n : Nat} {i : Int} (hd : decode m.2.1 pc = .ok (.baload, 1)) (hk : kd o = some (.inr (.byte, n))) (h0 : 0 ≤ i) (h1 : i < n) (kk : Runs X m (pc + 1) loc (vi (M o i.toNat) :: st) M P) : Runs X m pc loc (vi i :: vr o :: st) M P := by
  refine Runs.lift (fun p l e R s mid args below meth c cells slots D cA ad A Q C0 w => ?_) kk
  intro hM hL hS ls H locs hlv hH
  have hi0 : inI i := wfS_h hS
  obtain ⟨q, hq⟩ := at_CO hk
  have he := at_wsO (cA := cA) (ad := ad) (M := M) hq
  rw [ent_a hk, arP_i (Or.inr (Or.inr rfl))] at he
  obtain ⟨t, ht⟩ := ty_at (cA := cA) (kd_ty hk)
  have k := w hM hL (wfS_c (v := vi (M o i.toNat)) (inI_of (Or.inr (Or.inr rfl)) (by have h := hM o i.toNat; rw [sty_a hk] at h; exact h)) (wfS_t (wfS_t hS))) ls H locs hlv hH
  refine va_bald C0.1 C0.2.1 C0.2.2.2.2.2.2.1 hH.1 q t he ht (in_ix h0 h1 hi0) hd ?_
  rw [cl_ix h0 hi0]
  exact k
theorem Runs.zald {o n : Nat} {i : Int} (hd : decode m.2.1 pc = .ok (.baload, 1)) (hk : kd o = some (.inr (.boolean, n))) (h0 : 0 ≤ i) (h1 : i < n) (kk : Runs X m (pc + 1) loc (vi (M o i.toNat) :: st) M P) : Runs X m pc loc (vi i :: vr o :: st) M P := by
  refine Runs.lift (fun p l e R s mid args below meth c cells slots D cA ad A Q C0 w => ?_) kk
  intro hM hL hS ls H locs hlv hH
  have hi0 : inI i := wfS_h hS
  obtain ⟨q, hq⟩ := at_CO hk
  have he := at_wsO (cA := cA) (ad := ad) (M := M) hq
  rw [ent_a hk, arP_i (Or.inr (Or.inl rfl))] at he
  obtain ⟨t, ht⟩ := ty_at (cA := cA) (kd_ty hk)
  have k := w hM hL (wfS_c (v := vi (M o i.toNat)) (inI_of (Or.inr (Or.inl rfl)) (by have h := hM o i.toNat; rw [sty_a hk] at h; exact h)) (wfS_t (wfS_t hS))) ls H locs hlv hH
  refine va_zald C0.1 C0.2.1 C0.2.2.2.2.2.2.1 hH.1 q t he ht (in_ix h0 h1 hi0) hd ?_
  rw [cl_ix h0 hi0]
  exact k
theorem Runs.aald {o n o' : Nat} {i : Int} {C : String} (hd : decode m.2.1 pc = .ok (.aaload, 1)) (hk : kd o = some (.inr (.object C, n))) (h0 : 0 ≤ i) (h1 : i < n) (hr : rfs o i.toNat = some o') (kk : Runs X m (pc + 1) loc (vr o' :: st) M P) : Runs X m pc loc (vi i :: vr o :: st) M P := by
  refine Runs.lift (fun p l e R s mid args below meth c cells slots D cA ad A Q C0 w => ?_) kk
  intro hM hL hS ls H locs hlv hH
  have hi0 : inI i := wfS_h hS
  obtain ⟨q, hq⟩ := at_CO hk
  have he := at_wsO (cA := cA) (ad := ad) (M := M) hq
  rw [ent_a hk] at he
  obtain ⟨t, ht⟩ := ty_at (cA := cA) (kd_ty hk)
  have k := w hM hL (wfS_c (v := vr o') trivial (wfS_t (wfS_t hS))) ls H locs hlv hH
  refine va_aldq C0.1 C0.2.1 C0.2.2.2.2.2.2.1 hH.1 q t he ht (in_ix h0 h1 hi0) hd ?_
  rw [cl_ix h0 hi0, hr]
  exact k
theorem ent_up {cA : FieldType → ClassId} {ad : Nat → Nat} {M : Mem} {o n : Nat} {ty : FieldType} {i : Nat} {z : Int} {y : Int32} (hk : kd o = some (.inr (ty, n))) (h : ty = .int ∨ ty = .boolean ∨ ty = .byte) (hy : y = Int32.ofInt z) : (Sum.inl (cA ty, n, .inl (upd (fun j => Int32.ofInt (M o j)) i y)) : va_E) = ent cA ad (up2 M o i z) o := by
  rw [ent_a hk, arP_i h]
  congr 4
  funext j
  unfold upd up2
  subst hy
  by_cases hj : j = i
  · simp [hj]
  · simp [hj]
theorem Runs.iast {o n : Nat} {i z : Int} (hd : decode m.2.1 pc = .ok (.iastore, 1)) (hk : kd o = some (.inr (.int, n))) (h0 : 0 ≤ i) (h1 : i < n) (kk : Runs X m (pc + 1) loc st (up2 M o i.toNat z) P) : Runs X m pc loc (vi z :: vi i :: vr o :: st) M P := by
  refine Runs.lift (fun p l e R s mid args below meth c cells slots D cA ad A Q C0 w => ?_) kk
  intro hM hL hS ls H locs hlv hH
  have hz0 : inI z := wfS_h hS
  have hi0 : inI i := wfS_h (wfS_t hS)
  obtain ⟨q, hq⟩ := at_CO hk
  have he := at_wsO (cA := cA) (ad := ad) (M := M) hq
  rw [ent_a hk, arP_i (Or.inl rfl)] at he
  obtain ⟨t, ht⟩ := ty_at (cA := cA) (kd_ty hk)
  refine va_iast C0.1 C0.2.1 C0.2.2.2.2.2.2.1 hH.1 hH.2.1 hH.2.2 q t he ht (in_ix h0 h1 hi0) hd ?_
  rw [cl_ix h0 hi0, ent_up (ad := ad) hk (Or.inl rfl) rfl, set_wsO hq up2_ne]
  intro H1 locs1 hP1 hD1 hS1
  exact w (wfM_up hM (by rw [sty_a hk]; exact hz0)) hL (wfS_t (wfS_t (wfS_t hS))) ls H1 locs1 hlv ⟨hP1, hD1, hS1⟩
theorem Runs.zast {o n : Nat} {i z : Int} (hd : decode m.2.1 pc = .ok (.bastore, 1)) (hk : kd o = some (.inr (.boolean, n))) (h0 : 0 ≤ i) (h1 : i < n) (hz : 0 ≤ z ∧ z ≤ 1) (kk : Runs X m (pc + 1) loc st (up2 M o i.toNat z) P) : Runs X m pc loc (vi z :: vi i :: vr o :: st) M P := by
  refine Runs.lift (fun p l e R s mid args below meth c cells slots D cA ad A Q C0 w => ?_) kk
  intro hM hL hS ls H locs hlv hH
  have hi0 : inI i := wfS_h (wfS_t hS)
  obtain ⟨q, hq⟩ := at_CO hk
  have he := at_wsO (cA := cA) (ad := ad) (M := M) hq
  rw [ent_a hk, arP_i (Or.inr (Or.inl rfl))] at he
  obtain ⟨t, ht⟩ := ty_at (cA := cA) (kd_ty hk)
  refine va_zast C0.1 C0.2.1 C0.2.2.2.2.2.2.1 hH.1 hH.2.1 hH.2.2 q t he ht (in_ix h0 h1 hi0) hd ?_
  rw [cl_ix h0 hi0, ent_up (ad := ad) (z := z) hk (Or.inr (Or.inl rfl)) (show vp_nar .boolean (Int32.ofInt z) = _ from nar_b hz), set_wsO hq up2_ne]
  intro H1 locs1 hP1 hD1 hS1
  exact w (wfM_up hM (by rw [sty_a hk]; exact hz)) hL (wfS_t (wfS_t (wfS_t hS))) ls H1 locs1 hlv ⟨hP1, hD1, hS1⟩
theorem Runs.bast {o n : Nat} {i z : Int} (hd : decode m.2.1 pc = .ok (.bastore, 1)) (hk : kd o = some (.inr (.byte, n))) (h0 : 0 ≤ i) (h1 : i < n) (hz : -128 ≤ z ∧ z ≤ 127) (kk : Runs X m (pc + 1) loc st (up2 M o i.toNat z) P) : Runs X m pc loc (vi z :: vi i :: vr o :: st) M P := by
  refine Runs.lift (fun p l e R s mid args below meth c cells slots D cA ad A Q C0 w => ?_) kk
  intro hM hL hS ls H locs hlv hH
  have hi0 : inI i := wfS_h (wfS_t hS)
  obtain ⟨q, hq⟩ := at_CO hk
  have he := at_wsO (cA := cA) (ad := ad) (M := M) hq
  rw [ent_a hk, arP_i (Or.inr (Or.inr rfl))] at he
  obtain ⟨t, ht⟩ := ty_at (cA := cA) (kd_ty hk)
  refine va_bast C0.1 C0.2.1 C0.2.2.2.2.2.2.1 hH.1 hH.2.1 hH.2.2 q t he ht (in_ix h0 h1 hi0) hd ?_
  rw [cl_ix h0 hi0, ent_up (ad := ad) (z := z) hk (Or.inr (Or.inr rfl)) (show vp_nar .byte (Int32.ofInt z) = _ from nar_y hz), set_wsO hq up2_ne]
  intro H1 locs1 hP1 hD1 hS1
  exact w (wfM_up hM (by rw [sty_a hk]; exact hz)) hL (wfS_t (wfS_t (wfS_t hS))) ls H1 locs1 hlv ⟨hP1, hD1, hS1⟩
end RH
end
section
/-! ===== calls ===== -/
/-- the locals with which a method begins -/
def lvA : Nat → List AV → List (Nat × AV)
  | _, [] => []
  | i, v :: vs => (i, v) :: lvA (if cat2 v then i + 2 else i + 1) vs
def wds (vs : List AV) : Nat := (vs.map (fun v => if cat2 v then 2 else 1)).sum
/-- called with these arguments in this memory, the method returns so that P -/
def Call (X : Scr) (m : MR) (as : List AV) (M : Mem) (P : Option AV → Mem → Prop) : Prop := Runs X m 0 (lvA 0 as) [] M P
theorem lvA_c (ad : Nat → Nat) : ∀ (i : Nat) (vs : List AV), lv_args i (vs.map (cV ad)) = cL ad (lvA i vs)
  | _, [] => rfl
  | i, v :: vs => by
    have e : (if (cV ad v).category = 2 then i + 2 else i + 1) = (if cat2 v then i + 2 else i + 1) := by
      rcases v with z | z | o <;> rfl
    show (i, cV ad v) :: lv_args (if (cV ad v).category = 2 then i + 2 else i + 1) (vs.map (cV ad)) = (i, cV ad v) :: cL ad (lvA (if cat2 v then i + 2 else i + 1) vs)
    rw [e, lvA_c ad _ vs]
theorem sl_len (ad : Nat → Nat) : ∀ (vs : List AV), (lg_sl (vs.map (cV ad))).length = wds vs
  | [] => rfl
  | v :: vs => by
    have e := sl_len ad vs
    unfold lg_sl wds at e ⊢
    rw [List.map_cons, List.flatMap_cons, List.length_append, e, List.map_cons, List.sum_cons]
    rcases v with z | z | o <;> rfl
theorem wfL_A {vs : List AV} (h : wfS vs) : ∀ (i : Nat), wfL (lvA i vs) := by
  induction vs with
  | nil => intro i q hq; cases hq
  | cons v vs ih =>
    intro i q hq
    rcases List.mem_cons.mp hq with rfl | h1
    · exact h v List.mem_cons_self
    · exact ih (fun w hw => h w (List.mem_cons_of_mem _ hw)) _ q h1
/-- the world at a call's start and end -/
def BW (D : va_G) (cA : FieldType → ClassId) (ad : Nat → Nat) (A : Nat → Prop) (u : Mem) (t : State) : Prop := va_P D vwCl (wsO cA ad u) t.heap ∧ va_K D vwCl (tysO cA) t ∧ va_D A (wsO cA ad u) ∧ wfM u
def PW (D : va_G) (cA : FieldType → ClassId) (ad : Nat → Nat) (sz : Nat) (M : Mem) (as : List AV) : Array Value → State → Prop :=
  va_Pc (as.map (cV ad)) (fun U => U.heap.size = sz ∧ va_P D vwCl (wsO cA ad M) U.heap ∧ va_K D vwCl (tysO cA) U ∧ va_D (fun _ => True) (wsO cA ad M) ∧ NW U)
theorem PW_blind {D : va_G} {cA : FieldType → ClassId} {ad : Nat → Nat} {sz : Nat} {M : Mem} {as : List AV} : FrameBlind (PW D cA ad sz M as) := by
  intro a U g mk q
  obtain ⟨q0, q1, qP, qK, qD, qN⟩ := q
  exact ⟨q0, q1, qP, va_K.moved (u := U) (U := U.calling g mk a) (Vm.Alike.refl U.vm) qK, qD, NW.same (u := U) rfl qN⟩
/-- what a method's own record must be -/
def okM (m : MR) : Prop := plainName m.1.cls = true ∧ m.1 ≠ yL_law
section MM
variable {X : Scr} {m : MR} {as : List AV} {M : Mem} {P : Option AV → Mem → Prop} {D : va_G} {cA : FieldType → ClassId} {ad : Nat → Nat} {sz : Nat} {l : Launch}
/-- the common part of the three kinds of contract -/
theorem met_core (hC : Call X m as M P) (ho : okM m) (hw : wds as ≤ m.2.2.1) (hS : wfS as) (hM : wfM M) {Qc : Array Value → State → Outcome → State → Prop}
    (hfin : ∀ (p : Program) (e : Env) (s : State) (mid : MethodId) (args : Array Value) (below : List Frame) (meth : Method) (c : Code), p.tables.exec = Jvm.exec → c.code = m.2.1 → meth.sig.returnType = m.2.2.2.1 → meth.locks = false → s.heap.size = sz → va_K D vwCl (tysO cA) s →
      FinR m P p l e (rmO m) s mid args below meth c 0 0 D cA ad (va_A (wsO cA ad M) sz) (MQ below Qc args s 0 0 (va_A (wsO cA ad M) sz))) :
    Met l m.1 (wsM m) (rmO m) (PW D cA ad sz M as) Qc 0 0 (va_A (wsO cA ad M) sz) := by
  refine Met.ofW (cc := m.2.1) (maxL := m.2.2.1) (ret := m.2.2.2.1) ho.1 rfl ?_
  intro p e s mid args below meth c s₁ B hml hv
  obtain ⟨rfl, hsz, hP, hK, hD0, hN⟩ := hv
  have hts := atoms_spec (ws := wsM m) B.pre
  have hown : s.vm.findClass m.1.cls = some mid.cls := findClass_of_methodNamed B.named
  have hD : va_D (va_A (wsO cA ad M) sz) (wsO cA ad M) := hD0.self (sz := sz)
  have hl := lv_entry (as.map (cV ad)) (n := m.2.2.1) (by rw [sl_len]; exact hw)
  rw [lg_entry_eq]
  generalize (lg_sl (as.map (cV ad)) ++ List.replicate (m.2.2.1 - (lg_sl (as.map (cV ad))).length) Slot.unset).toArray = ls at hl ⊢
  rw [lvA_c] at hl
  exact hC p l e (rmO m) s mid (as.map (cV ad)).toArray below meth c 0 0 D cA ad (va_A (wsO cA ad M) sz) _
    ⟨B.exec, B.bytes, hml, hown, fun w h => hts w (List.mem_cons_of_mem _ h), hN, hK, fun q h => Or.inr (by rw [← hsz]; exact h), ⟨Nat.le_refl _, Nat.le_refl _⟩, ⟨Nat.zero_le _, Nat.zero_le _⟩, fun h => absurd h ho.2⟩
    (hfin p e s mid _ below meth c B.exec B.bytes B.returns B.notSynchronized hsz hK) hM (wfL_A hS 0) (fun v h => by cases h) ls s.heap [] hl ⟨hP, hD, va_S.rf⟩
theorem met_i (hC : Call X m as M P) (ho : okM m) (hw : wds as ≤ m.2.2.1) (hS : wfS as) (hM : wfM M) (hr : m.2.2.2.1 = some .int ∨ m.2.2.2.1 = some .boolean) :
    Met l m.1 (wsM m) (rmO m) (PW D cA ad sz M as) (va_Qi (fun (r : Int32) (u : Mem) => ∃ z : Int, r = Int32.ofInt z ∧ inI z ∧ P (some (vi z)) u) (BW D cA ad (va_A (wsO cA ad M) sz)) (va_A (wsO cA ad M) sz)) 0 0 (va_A (wsO cA ad M) sz) := by
  refine met_core hC ho hw hS hM ?_
  intro p e s mid args below meth c hx hb hret hlk hsz hK
  intro r M' H locs ls pc hP hwM hok hH hd
  rcases hr with hr | hr
  · rw [hr] at hok hret
    rcases r with _ | z | z | o
    · exact absurd hok (by simp [okR])
    · exact W.iret (v := Int32.ofInt z) hx hb hret (fun t ht hW => ⟨⟨_, M', rfl, ⟨z, rfl, hok, hP⟩, ⟨by rw [ht]; exact hH.1, va_K.moved hW.alike hK, hH.2.1, hwM⟩⟩, hH.2.2.F ht⟩) hH.2.2.2.2 hd hlk
    · exact absurd hok (by simp [okR])
    · exact absurd hok (by simp [okR])
  · rw [hr] at hok hret
    rcases r with _ | z | z | o
    · exact absurd hok (by simp [okR])
    · have hz : 0 ≤ z ∧ z ≤ 1 := hok
      exact W.zret (v := Int32.ofInt z) hx hb hret (show Value.int _ = Value.int _ by rw [nar_b hz]) (fun t ht hW => ⟨⟨_, M', rfl, ⟨z, rfl, ⟨by omega, by omega⟩, hP⟩, ⟨by rw [ht]; exact hH.1, va_K.moved hW.alike hK, hH.2.1, hwM⟩⟩, hH.2.2.F ht⟩) hH.2.2.2.2 hd hlk
    · exact absurd hok (by simp [okR])
    · exact absurd hok (by simp [okR])
theorem met_l (hC : Call X m as M P) (ho : okM m) (hw : wds as ≤ m.2.2.1) (hS : wfS as) (hM : wfM M) (hr : m.2.2.2.1 = some .long) :
    Met l m.1 (wsM m) (rmO m) (PW D cA ad sz M as) (va_Ql (fun (r : Int64) (u : Mem) => ∃ z : Int, r = Int64.ofInt z ∧ inL z ∧ P (some (vl z)) u) (BW D cA ad (va_A (wsO cA ad M) sz)) (va_A (wsO cA ad M) sz)) 0 0 (va_A (wsO cA ad M) sz) := by
  refine met_core hC ho hw hS hM ?_
  intro p e s mid args below meth c hx hb hret hlk hsz hK
  intro r M' H locs ls pc hP hwM hok hH hd
  rw [hr] at hok hret
  rcases r with _ | z | z | o
  · exact absurd hok (by simp [okR])
  · exact absurd hok (by simp [okR])
  · exact W.lret (v := Int64.ofInt z) hx hb hret (fun t ht hW => ⟨⟨_, M', rfl, ⟨z, rfl, hok, hP⟩, ⟨by rw [ht]; exact hH.1, va_K.moved hW.alike hK, hH.2.1, hwM⟩⟩, hH.2.2.F ht⟩) hH.2.2.2.2 hd hlk
  · exact absurd hok (by simp [okR])
theorem met_v (hC : Call X m as M P) (ho : okM m) (hw : wds as ≤ m.2.2.1) (hS : wfS as) (hM : wfM M) (hr : m.2.2.2.1 = none) :
    Met l m.1 (wsM m) (rmO m) (PW D cA ad sz M as) (va_Qv (fun (u : Mem) => P none u) (BW D cA ad (va_A (wsO cA ad M) sz)) (va_A (wsO cA ad M) sz)) 0 0 (va_A (wsO cA ad M) sz) := by
  refine met_core hC ho hw hS hM ?_
  intro p e s mid args below meth c hx hb hret hlk hsz hK
  intro r M' H locs ls pc hP hwM hok hH hd
  rw [hr] at hok hret
  rcases r with _ | z | z | o
  · exact W.vret hx hb hret (fun t ht hW => ⟨⟨M', rfl, hP, ⟨by rw [ht]; exact hH.1, va_K.moved hW.alike hK, hH.2.1, hwM⟩⟩, hH.2.2.F ht⟩) hH.2.2.2.2 hd hlk
  · exact absurd hok (by simp [okR])
  · exact absurd hok (by simp [okR])
  · exact absurd hok (by simp [okR])
end MM
/-- what a callee's record says: its code is in the tables, its descriptor has n parameters -/
def okC (y : MR) (n : Nat) : Prop := okM y ∧ Cond.code y.1 y.2.1 y.2.2.1 y.2.2.2.1 ∈ TB ∧ Cond.initialized y.1.cls ∈ TB ∧ y.1.cls ≠ "java/lang/invoke/MethodHandle" ∧ y.1.cls ≠ "java/lang/invoke/VarHandle" ∧ (parseMethodDescriptor y.1.desc).map (fun d => d.parameters.length) = some n
/-- how a method is linked -/
def ML (own : String) (index : Nat) (y : MethodName) : Prop := (Cond.methodLink own index y ∈ TB) ∨ ∃ host, Cond.methodLinkNest own index y host ∈ tables_1
/-- the callee's room is within the caller's -/
def okRm (m y : MR) : Prop := y.2.2.2.2.1 + 1 ≤ m.2.2.2.2.1 ∧ 8 + (y.2.2.1 + 11) + y.2.2.2.2.2 ≤ m.2.2.2.2.2
theorem wsM_good (y : MR) (h : Cond.code y.1 y.2.1 y.2.2.1 y.2.2.2.1 ∈ TB) : GoodIn TB (wsM y) := by
  intro w hw
  rcases List.mem_cons.mp hw with rfl | h1
  · exact tb_good _ h
  · exact tb_good _ h1
section CC
variable {X : Scr} {m y : MR} {pc : Nat} {loc : List (Nat × AV)} {st : List AV} {M : Mem} {P P' : Option AV → Mem → Prop}
theorem wfS_r {as rest : List AV} (h : wfS (as.reverse ++ rest)) : wfS as ∧ wfS rest := ⟨fun v hv => h v (List.mem_append_left _ (List.mem_reverse.mpr hv)), fun v hv => h v (List.mem_append_right _ hv)⟩
theorem cat_sum (ad : Nat → Nat) : ∀ (st : List AV), ((st.map (cV ad)).map (fun v => v.category)).sum = wds st
  | [] => rfl
  | v :: st => by
    have e := cat_sum ad st
    unfold wds at e ⊢
    rw [List.map_cons, List.map_cons, List.sum_cons, e, List.map_cons, List.sum_cons]
    rcases v with z | z | o <;> rfl
/-- an instance method called: what the machine does, by the kind of its link -/
theorem runV {p : Program} {l : Launch} {e : Env} {R : Room} {s : State} {mid : MethodId} {args : Array Value} {below : List Frame} {meth : Method} {c : Code} {cells slots : Nat} {D : va_G} {cA : FieldType → ClassId} {ad : Nat → Nat} {A : Nat → Prop} {ls : Array Slot} {H : Heap} {locs : List Loc} {Qc : Array Value → State → Outcome → State → Prop} {n index o ci : Nat} {as : List AV} {q : vw_C}
    (C : Ctx X m p R s mid args c cells slots D cA ad A) (hM : Met l y.1 (wsM y) (rmO y) (PW D cA ad H.size M (vr o :: as)) Qc 0 0 (va_A (wsO cA ad M) H.size)) (hy : okC y n) (hi : Cond.instanceMethod y.1 ∈ TB) (hs : Cond.selects y.1.cls y.1 y.1 ∈ TB) (hl : ML m.1.cls index y.1) (hn : as.length = n) (hrm : okRm m y) (hst : wds st ≤ 8) (hk : kd o = some (.inl ci)) (hc : vwCl[ci]? = some q) (hq : q.1 = y.1.cls)
    (hd : decode m.2.1 pc = .ok (.invokevirtual index, 3)) (hlv : lv_has ls m.2.2.1 (cL ad loc)) (hH : Hd D cA ad A s M H locs) :
    va_Run p l e R s mid args below meth c H locs cells slots 0 0 (F0 mid pc ls ((as.reverse ++ vr o :: st).map (cV ad))) (st.map (cV ad)) (Qc (Value.ref (ad o) :: as.map (cV ad)).toArray) (va_A (wsO cA ad M) H.size) := by
  obtain ⟨hx, hb, hml, hown, hts, hN, hK, hA, hR, hcs, -⟩ := C
  obtain ⟨hoM, hcode, hini, hy1, hy2, hdesc⟩ := hy
  obtain ⟨i, hi0⟩ := at_CO hk
  have he := at_wsO (cA := cA) (ad := ad) (M := M) hi0
  rw [ent_o hk] at he
  have hrec := va_recv hK hH.1 hc he
  rw [hq] at hrec
  have hpre : ∀ U : State, U.heap = H → s.WarmedH U.vm → PW D cA ad H.size M (vr o :: as) (Value.ref (ad o) :: as.map (cV ad)).toArray U := fun U hU hW => ⟨rfl, by rw [hU], by rw [hU]; exact hH.1, va_K.moved hW.alike hK, hH.2.1.weaken (fun _ _ _ _ => trivial), hN.warm hW⟩
  have hG := wsM_good y hcode
  have hroom : (rmO y).frames + 1 ≤ R.frames ∧ 8 + (y.2.2.1 + 11) + (rmO y).locals ≤ R.locals := ⟨Nat.le_trans hrm.1 hR.1, Nat.le_trans hrm.2 hR.2⟩
  have hstack : ((as.reverse ++ vr o :: st).map (cV ad)) = (as.map (cV ad)).reverse ++ Value.ref (ad o) :: st.map (cV ad) := by
    rw [List.map_append, List.map_reverse]; rfl
  have hcat : 2 * (F0 mid pc ls ((as.reverse ++ vr o :: st).map (cV ad))).monitorRoom + ((st.map (cV ad)).map fun v => v.category).sum ≤ 8 := lv_room (by rw [cat_sum]; exact hst)
  rcases hl with hl | ⟨host, hl⟩
  · refine va_runV (As := as.map (cV ad)) (rest := st.map (cV ad)) (n := n) (C := y.1.cls) (Ts := TB) (own := m.1.cls) (nL := m.2.2.1) (bytes := y.2.1) (maxL := y.2.2.1) (ret := y.2.2.2.1) ⟨hx, hb, hml, hown, hts⟩ hM ?_ ⟨PW_blind, hrec, hpre⟩ rfl (by rw [List.length_map]; exact hn) hlv.1 hstack hcat hd ⟨hcs.1, hcs.2⟩
    exact ⟨⟨rfl, rfl, hroom.1, hroom.2, pay_in hts hG, List.mem_cons_self, hts _ hcode, hts _ hini, ⟨hy1, hy2⟩, fun sig h => by rw [h] at hdesc; exact (Option.some.inj hdesc).symm, hts _ hl⟩, hts _ hi, hts _ hs⟩
  · refine va_runVN (As := as.map (cV ad)) (rest := st.map (cV ad)) (n := n) (C := y.1.cls) (host := host) (Ts := TB) (own := m.1.cls) (nL := m.2.2.1) (bytes := y.2.1) (maxL := y.2.2.1) (ret := y.2.2.2.1) ⟨hx, hb, hml, hown, hts⟩ hM ?_ ⟨PW_blind, hrec, hpre⟩ rfl (by rw [List.length_map]; exact hn) hlv.1 hstack hcat hd ⟨hcs.1, hcs.2⟩
    exact ⟨va_cnB n hts hG rfl rfl rfl (hN _ hl rfl) (hts _ hini) ⟨hy1, hy2, hdesc⟩ hroom, hts _ hi, hts _ hs⟩
theorem runS {p : Program} {l : Launch} {e : Env} {R : Room} {s : State} {mid : MethodId} {args : Array Value} {below : List Frame} {meth : Method} {c : Code} {cells slots : Nat} {D : va_G} {cA : FieldType → ClassId} {ad : Nat → Nat} {A : Nat → Prop} {ls : Array Slot} {H : Heap} {locs : List Loc} {Qc : Array Value → State → Outcome → State → Prop} {n index : Nat} {as : List AV}
    (C : Ctx X m p R s mid args c cells slots D cA ad A) (hM : Met l y.1 (wsM y) (rmO y) (PW D cA ad H.size M as) Qc 0 0 (va_A (wsO cA ad M) H.size)) (hy : okC y n) (hi : Cond.static y.1 ∈ TB) (hl : ML m.1.cls index y.1) (hn : as.length = n) (hrm : okRm m y) (hst : wds st ≤ 8)
    (hd : decode m.2.1 pc = .ok (.invokestatic index, 3)) (hlv : lv_has ls m.2.2.1 (cL ad loc)) (hH : Hd D cA ad A s M H locs) :
    va_Run p l e R s mid args below meth c H locs cells slots 0 0 (F0 mid pc ls ((as.reverse ++ st).map (cV ad))) (st.map (cV ad)) (Qc (as.map (cV ad)).toArray) (va_A (wsO cA ad M) H.size) := by
  obtain ⟨hx, hb, hml, hown, hts, hN, hK, hA, hR, hcs, -⟩ := C
  obtain ⟨hoM, hcode, hini, hy1, hy2, hdesc⟩ := hy
  have hpre : ∀ U : State, U.heap = H → s.WarmedH U.vm → PW D cA ad H.size M as (as.map (cV ad)).toArray U := fun U hU hW => ⟨rfl, by rw [hU], by rw [hU]; exact hH.1, va_K.moved hW.alike hK, hH.2.1.weaken (fun _ _ _ _ => trivial), hN.warm hW⟩
  have hG := wsM_good y hcode
  have hroom : (rmO y).frames + 1 ≤ R.frames ∧ 8 + (y.2.2.1 + 11) + (rmO y).locals ≤ R.locals := ⟨Nat.le_trans hrm.1 hR.1, Nat.le_trans hrm.2 hR.2⟩
  have hstack : ((as.reverse ++ st).map (cV ad)) = (as.map (cV ad)).reverse ++ st.map (cV ad) := by
    rw [List.map_append, List.map_reverse]
  have hcat : 2 * (F0 mid pc ls ((as.reverse ++ st).map (cV ad))).monitorRoom + ((st.map (cV ad)).map fun v => v.category).sum ≤ 8 := lv_room (by rw [cat_sum]; exact hst)
  rcases hl with hl | ⟨host, hl⟩
  · refine va_runS (As := as.map (cV ad)) (rest := st.map (cV ad)) (n := n) (Ts := TB) (own := m.1.cls) (nL := m.2.2.1) (bytes := y.2.1) (maxL := y.2.2.1) (ret := y.2.2.2.1) ⟨hx, hb, hml, hown, hts⟩ hM ?_ ⟨PW_blind, hpre⟩ rfl (by rw [List.length_map]; exact hn) hlv.1 hstack hcat hd ⟨hcs.1, hcs.2⟩
    exact ⟨⟨rfl, rfl, hroom.1, hroom.2, pay_in hts hG, List.mem_cons_self, hts _ hcode, hts _ hini, ⟨hy1, hy2⟩, fun sig h => by rw [h] at hdesc; exact (Option.some.inj hdesc).symm, hts _ hl⟩, hts _ hi⟩
  · refine va_runSN (As := as.map (cV ad)) (rest := st.map (cV ad)) (n := n) (host := host) (Ts := TB) (own := m.1.cls) (nL := m.2.2.1) (bytes := y.2.1) (maxL := y.2.2.1) (ret := y.2.2.2.1) ⟨hx, hb, hml, hown, hts⟩ hM ?_ ⟨PW_blind, hpre⟩ rfl (by rw [List.length_map]; exact hn) hlv.1 hstack hcat hd ⟨hcs.1, hcs.2⟩
    exact ⟨va_cnB n hts hG rfl rfl rfl (hN _ hl rfl) (hts _ hini) ⟨hy1, hy2, hdesc⟩ hroom, hts _ hi, trivial⟩
/-- the way on behind a call -/
theorem free_A {s : State} {D : va_G} {cA : FieldType → ClassId} {ad : Nat → Nat} {A : Nat → Prop} {H : Heap} {locs : List Loc} (hH : Hd D cA ad A s M H locs) (hA : ∀ q, s.heap.size ≤ q → A q) : ∀ q, va_A (wsO cA ad M) H.size q → A q := by
  intro q h
  rcases h with ⟨k, e, h⟩ | h
  · exact hH.2.1.2 k (q, e) h
  · exact hA q (Nat.le_trans hH.2.2.1 h)
theorem Runs.callVi {n index o ci : Nat} {as : List AV} {q : vw_C} (hd : decode m.2.1 pc = .ok (.invokevirtual index, 3)) (hy : okC y n) (hi : Cond.instanceMethod y.1 ∈ TB) (hs : Cond.selects y.1.cls y.1 y.1 ∈ TB) (hl : ML m.1.cls index y.1) (hn : as.length = n) (hrm : okRm m y) (hst : wds st ≤ 8) (hw : wds (vr o :: as) ≤ y.2.2.1) (hk : kd o = some (.inl ci)) (hc : vwCl[ci]? = some q) (hq : q.1 = y.1.cls) (hr : y.2.2.2.1 = some .int ∨ y.2.2.2.1 = some .boolean)
    (hC : Call X y (vr o :: as) M P') (kk : ∀ (z : Int) (M1 : Mem), P' (some (vi z)) M1 → Runs X m (pc + 3) loc (vi z :: st) M1 P) : Runs X m pc loc (as.reverse ++ vr o :: st) M P := by
  intro p l e R s mid args below meth c cells slots D cA ad A Q C F hM hL hS ls H locs hlv hH
  have hS2 := wfS_r (as := as) (rest := vr o :: st) hS
  refine va_calli (runV C (met_i hC hy.1 hw (wfS_c trivial hS2.1) hM hr) hy hi hs hl hn hrm hst hk hc hq hd hlv hH) hH.2.2 (fun q _ h => free_A hH C.2.2.2.2.2.2.2.1 q h) (free_A hH C.2.2.2.2.2.2.2.1) (fun r u t H1 locs1 ht hvm hpost hB hz1 hk1 hS1 => ?_)
  obtain ⟨z, rfl, hz, hP'⟩ := hpost
  obtain ⟨b1, b2, b3, b4⟩ := hB
  rw [ht] at b1
  exact kk z u hP' p l e R s mid args below meth c cells slots D cA ad A Q C F b4 hL (wfS_c hz (wfS_t hS2.2)) ls H1 locs1 hlv ⟨b1, D_wsO u hH.2.1, hS1⟩
theorem Runs.callVl {n index o ci : Nat} {as : List AV} {q : vw_C} (hd : decode m.2.1 pc = .ok (.invokevirtual index, 3)) (hy : okC y n) (hi : Cond.instanceMethod y.1 ∈ TB) (hs : Cond.selects y.1.cls y.1 y.1 ∈ TB) (hl : ML m.1.cls index y.1) (hn : as.length = n) (hrm : okRm m y) (hst : wds st ≤ 8) (hw : wds (vr o :: as) ≤ y.2.2.1) (hk : kd o = some (.inl ci)) (hc : vwCl[ci]? = some q) (hq : q.1 = y.1.cls) (hr : y.2.2.2.1 = some .long)
    (hC : Call X y (vr o :: as) M P') (kk : ∀ (z : Int) (M1 : Mem), P' (some (vl z)) M1 → Runs X m (pc + 3) loc (vl z :: st) M1 P) : Runs X m pc loc (as.reverse ++ vr o :: st) M P := by
  intro p l e R s mid args below meth c cells slots D cA ad A Q C F hM hL hS ls H locs hlv hH
  have hS2 := wfS_r (as := as) (rest := vr o :: st) hS
  refine va_calll (runV C (met_l hC hy.1 hw (wfS_c trivial hS2.1) hM hr) hy hi hs hl hn hrm hst hk hc hq hd hlv hH) hH.2.2 (fun q _ h => free_A hH C.2.2.2.2.2.2.2.1 q h) (free_A hH C.2.2.2.2.2.2.2.1) (fun r u t H1 locs1 ht hvm hpost hB hz1 hk1 hS1 => ?_)
  obtain ⟨z, rfl, hz, hP'⟩ := hpost
  obtain ⟨b1, b2, b3, b4⟩ := hB
  rw [ht] at b1
  exact kk z u hP' p l e R s mid args below meth c cells slots D cA ad A Q C F b4 hL (wfS_c hz (wfS_t hS2.2)) ls H1 locs1 hlv ⟨b1, D_wsO u hH.2.1, hS1⟩
theorem Runs.callVv {n index o ci : Nat} {as : List AV} {q : vw_C} (hd : decode m.2.1 pc = .ok (.invokevirtual index, 3)) (hy : okC y n) (hi : Cond.instanceMethod y.1 ∈ TB) (hs : Cond.selects y.1.cls y.1 y.1 ∈ TB) (hl : ML m.1.cls index y.1) (hn : as.length = n) (hrm : okRm m y) (hst : wds st ≤ 8) (hw : wds (vr o :: as) ≤ y.2.2.1) (hk : kd o = some (.inl ci)) (hc : vwCl[ci]? = some q) (hq : q.1 = y.1.cls) (hr : y.2.2.2.1 = none)
    (hC : Call X y (vr o :: as) M P') (kk : ∀ (M1 : Mem), P' none M1 → Runs X m (pc + 3) loc st M1 P) : Runs X m pc loc (as.reverse ++ vr o :: st) M P := by
  intro p l e R s mid args below meth c cells slots D cA ad A Q C F hM hL hS ls H locs hlv hH
  have hS2 := wfS_r (as := as) (rest := vr o :: st) hS
  refine va_callv (runV C (met_v hC hy.1 hw (wfS_c trivial hS2.1) hM hr) hy hi hs hl hn hrm hst hk hc hq hd hlv hH) hH.2.2 (fun q _ h => free_A hH C.2.2.2.2.2.2.2.1 q h) (free_A hH C.2.2.2.2.2.2.2.1) (fun u t H1 locs1 ht hvm hpost hB hz1 hk1 hS1 => ?_)
  obtain ⟨b1, b2, b3, b4⟩ := hB
  rw [ht] at b1
  exact kk u hpost p l e R s mid args below meth c cells slots D cA ad A Q C F b4 hL (wfS_t hS2.2) ls H1 locs1 hlv ⟨b1, D_wsO u hH.2.1, hS1⟩
theorem Runs.callSi {n index : Nat} {as : List AV} (hd : decode m.2.1 pc = .ok (.invokestatic index, 3)) (hy : okC y n) (hi : Cond.static y.1 ∈ TB) (hl : ML m.1.cls index y.1) (hn : as.length = n) (hrm : okRm m y) (hst : wds st ≤ 8) (hw : wds as ≤ y.2.2.1) (hr : y.2.2.2.1 = some .int ∨ y.2.2.2.1 = some .boolean)
    (hC : Call X y as M P') (kk : ∀ (z : Int) (M1 : Mem), P' (some (vi z)) M1 → Runs X m (pc + 3) loc (vi z :: st) M1 P) : Runs X m pc loc (as.reverse ++ st) M P := by
  intro p l e R s mid args below meth c cells slots D cA ad A Q C F hM hL hS ls H locs hlv hH
  have hS2 := wfS_r (as := as) (rest := st) hS
  refine va_calli (runS C (met_i hC hy.1 hw hS2.1 hM hr) hy hi hl hn hrm hst hd hlv hH) hH.2.2 (fun q _ h => free_A hH C.2.2.2.2.2.2.2.1 q h) (free_A hH C.2.2.2.2.2.2.2.1) (fun r u t H1 locs1 ht hvm hpost hB hz1 hk1 hS1 => ?_)
  obtain ⟨z, rfl, hz, hP'⟩ := hpost
  obtain ⟨b1, b2, b3, b4⟩ := hB
  rw [ht] at b1
  exact kk z u hP' p l e R s mid args below meth c cells slots D cA ad A Q C F b4 hL (wfS_c hz hS2.2) ls H1 locs1 hlv ⟨b1, D_wsO u hH.2.1, hS1⟩
theorem Runs.callSl {n index : Nat} {as : List AV} (hd : decode m.2.1 pc = .ok (.invokestatic index, 3)) (hy : okC y n) (hi : Cond.static y.1 ∈ TB) (hl : ML m.1.cls index y.1) (hn : as.length = n) (hrm : okRm m y) (hst : wds st ≤ 8) (hw : wds as ≤ y.2.2.1) (hr : y.2.2.2.1 = some .long)
    (hC : Call X y as M P') (kk : ∀ (z : Int) (M1 : Mem), P' (some (vl z)) M1 → Runs X m (pc + 3) loc (vl z :: st) M1 P) : Runs X m pc loc (as.reverse ++ st) M P := by
  intro p l e R s mid args below meth c cells slots D cA ad A Q C F hM hL hS ls H locs hlv hH
  have hS2 := wfS_r (as := as) (rest := st) hS
  refine va_calll (runS C (met_l hC hy.1 hw hS2.1 hM hr) hy hi hl hn hrm hst hd hlv hH) hH.2.2 (fun q _ h => free_A hH C.2.2.2.2.2.2.2.1 q h) (free_A hH C.2.2.2.2.2.2.2.1) (fun r u t H1 locs1 ht hvm hpost hB hz1 hk1 hS1 => ?_)
  obtain ⟨z, rfl, hz, hP'⟩ := hpost
  obtain ⟨b1, b2, b3, b4⟩ := hB
  rw [ht] at b1
  exact kk z u hP' p l e R s mid args below meth c cells slots D cA ad A Q C F b4 hL (wfS_c hz hS2.2) ls H1 locs1 hlv ⟨b1, D_wsO u hH.2.1, hS1⟩
theorem Runs.callSv {n index : Nat} {as : List AV} (hd : decode m.2.1 pc = .ok (.invokestatic index, 3)) (hy : okC y n) (hi : Cond.static y.1 ∈ TB) (hl : ML m.1.cls index y.1) (hn : as.length = n) (hrm : okRm m y) (hst : wds st ≤ 8) (hw : wds as ≤ y.2.2.1) (hr : y.2.2.2.1 = none)
    (hC : Call X y as M P') (kk : ∀ (M1 : Mem), P' none M1 → Runs X m (pc + 3) loc st M1 P) : Runs X m pc loc (as.reverse ++ st) M P := by
  intro p l e R s mid args below meth c cells slots D cA ad A Q C F hM hL hS ls H locs hlv hH
  have hS2 := wfS_r (as := as) (rest := st) hS
  refine va_callv (runS C (met_v hC hy.1 hw hS2.1 hM hr) hy hi hl hn hrm hst hd hlv hH) hH.2.2 (fun q _ h => free_A hH C.2.2.2.2.2.2.2.1 q h) (free_A hH C.2.2.2.2.2.2.2.1) (fun u t H1 locs1 ht hvm hpost hB hz1 hk1 hS1 => ?_)
  obtain ⟨b1, b2, b3, b4⟩ := hB
  rw [ht] at b1
  exact kk u hpost p l e R s mid args below meth c cells slots D cA ad A Q C F b4 hL hS2.2 ls H1 locs1 hlv ⟨b1, D_wsO u hH.2.1, hS1⟩
end CC
end
section
/-! ===== the JDK's own, the script ===== -/
section RX
variable {X : Scr} {m : MR} {pc : Nat} {loc : List (Nat × AV)} {st : List AV} {M : Mem} {P : Option AV → Mem → Prop}
theorem Runs.mmax {a b : Int} {index : Nat} (hd : decode m.2.1 pc = .ok (.invokestatic index, 3)) (hl : Cond.methodLink m.1.cls index Lib.Math.max.name ∈ TB) (hw : Cond.static Lib.Math.max.name ∈ TB ∧ Cond.initialized "java/lang/Math" ∈ TB ∧ Cond.code Lib.Math.max.name Lib.Math.max.code 2 (some .int) ∈ TB) (hf : 1 ≤ m.2.2.2.2.1 ∧ wds st + 13 ≤ m.2.2.2.2.2) (kk : Runs X m (pc + 3) loc (vi (max a b) :: st) M P) : Runs X m pc loc (vi b :: vi a :: st) M P := by
  refine Runs.lift (fun p l e R s mid args below meth c cells slots D cA ad A Q C w => ?_) kk
  intro hM hL hS ls H locs hlv hH
  obtain ⟨hx, hb, hml, hown, hts, hN, hK, hA, hR, hcs, -⟩ := C
  have hbi : inI b := wfS_h hS
  have hai : inI a := wfS_h (wfS_t hS)
  have k := w hM hL (wfS_c (v := vi (max a b)) (show inI (max a b) by unfold inI; omega) (wfS_t (wfS_t hS))) ls H locs hlv hH
  refine va_mmax hx hb (by rw [hml]; exact hlv.1.symm) (own := m.1.cls) hown (hts _ hl) (hts _ hw.1) (hts _ hw.2.1) (hts _ hw.2.2) (Nat.le_trans hf.1 hR.1) (by rw [cat_sum]; exact Nat.le_trans hf.2 hR.2) hcs.1 hcs.2 hd ?_
  have e : (if Int32.ofInt a < Int32.ofInt b then Int32.ofInt b else Int32.ofInt a) = Int32.ofInt (max a b) := by
    simp only [i32_lt hai hbi]
    split
    · congr 1; omega
    · congr 1; omega
  rw [e]; exact k
theorem Runs.mmin {a b : Int} {index : Nat} (hd : decode m.2.1 pc = .ok (.invokestatic index, 3)) (hl : Cond.methodLink m.1.cls index Lib.Math.min.name ∈ TB) (hw : Cond.static Lib.Math.min.name ∈ TB ∧ Cond.initialized "java/lang/Math" ∈ TB ∧ Cond.code Lib.Math.min.name Lib.Math.min.code 2 (some .int) ∈ TB) (hf : 1 ≤ m.2.2.2.2.1 ∧ wds st + 13 ≤ m.2.2.2.2.2) (kk : Runs X m (pc + 3) loc (vi (min a b) :: st) M P) : Runs X m pc loc (vi b :: vi a :: st) M P := by
  refine Runs.lift (fun p l e R s mid args below meth c cells slots D cA ad A Q C w => ?_) kk
  intro hM hL hS ls H locs hlv hH
  obtain ⟨hx, hb, hml, hown, hts, hN, hK, hA, hR, hcs, -⟩ := C
  have hbi : inI b := wfS_h hS
  have hai : inI a := wfS_h (wfS_t hS)
  have k := w hM hL (wfS_c (v := vi (min a b)) (show inI (min a b) by unfold inI; omega) (wfS_t (wfS_t hS))) ls H locs hlv hH
  refine va_mmin hx hb (by rw [hml]; exact hlv.1.symm) (own := m.1.cls) hown (hts _ hl) (hts _ hw.1) (hts _ hw.2.1) (hts _ hw.2.2) (Nat.le_trans hf.1 hR.1) (by rw [cat_sum]; exact Nat.le_trans hf.2 hR.2) hcs.1 hcs.2 hd ?_
  have e : (if Int32.ofInt b < Int32.ofInt a then Int32.ofInt b else Int32.ofInt a) = Int32.ofInt (min a b) := by
    simp only [i32_lt hbi hai]
    split
    · congr 1; omega
    · congr 1; omega
  rw [e]; exact k
/-- n places of the array o1 from sp on, written into the array o2 from dp on -/
def cpyM (M : Mem) (o1 sp o2 dp n : Nat) : Mem := fun o j => if o = o2 ∧ dp ≤ j ∧ j < dp + n then M o1 (sp + (j - dp)) else M o j
theorem cpyM_ne {M : Mem} {o1 sp o2 dp n : Nat} : ∀ o, o ≠ o2 → ∀ j, cpyM M o1 sp o2 dp n o j = M o j := fun o h j => by simp [cpyM, h]
theorem Runs.acopy {o1 o2 n1 n2 : Nat} {sp dp n : Int} {index : Nat} (hd : decode m.2.1 pc = .ok (.invokestatic index, 3)) (hl : Cond.methodLink m.1.cls index arraycopyName ∈ TB) (hw : Cond.native arraycopyName ∈ TB ∧ Cond.static arraycopyName ∈ TB ∧ Cond.initialized "java/lang/System" ∈ TB) (hf : 1 ≤ m.2.2.2.2.1 ∧ wds st + (nativeFrameWords "java/lang/System" "arraycopy" 5 + 11) ≤ m.2.2.2.2.2) (hk1 : kd o1 = some (.inr (.int, n1))) (hk2 : kd o2 = some (.inr (.int, n2))) (h1 : 0 ≤ sp) (h2 : 0 ≤ dp) (h3 : 0 ≤ n) (h4 : sp + n ≤ n1) (h5 : dp + n ≤ n2)
    (kk : Runs X m (pc + 3) loc st (cpyM M o1 sp.toNat o2 dp.toNat n.toNat) P) : Runs X m pc loc (vi n :: vi dp :: vr o2 :: vi sp :: vr o1 :: st) M P := by
  refine Runs.lift (fun p l e R s mid args below meth c cells slots D cA ad A Q C w => ?_) kk
  intro hM hL hS ls H locs hlv hH
  obtain ⟨hx, hb, hml, hown, hts, hN, hK, hA, hR, hcs, -⟩ := C
  have hni : inI n := wfS_h hS
  have hdi : inI dp := wfS_h (wfS_t hS)
  have hsi : inI sp := wfS_h (wfS_t (wfS_t (wfS_t hS)))
  have hrest : wfS st := wfS_t (wfS_t (wfS_t (wfS_t (wfS_t hS))))
  obtain ⟨q1, hq1⟩ := at_CO hk1
  have he1 := at_wsO (cA := cA) (ad := ad) (M := M) hq1
  rw [ent_a hk1, arP_i (Or.inl rfl)] at he1
  obtain ⟨q2, hq2⟩ := at_CO hk2
  have he2 := at_wsO (cA := cA) (ad := ad) (M := M) hq2
  rw [ent_a hk2, arP_i (Or.inl rfl)] at he2
  obtain ⟨t, ht⟩ := ty_at (cA := cA) (ty := .int) (Or.inr (Or.inl rfl))
  have hneg : ∀ {x : Int}, 0 ≤ x → inI x → ¬ Int32.ofInt x < 0 := fun h hi => by rw [i32_l0 hi]; omega
  refine va_copyi hx hb (by rw [hml]; exact hlv.1.symm) (own := m.1.cls) hown (hts _ hl) (hts _ hw.1) (hts _ hw.2.1) (hts _ hw.2.2) hK hH.1 hH.2.1 hH.2.2 q1 q2 t t he1 he2 ht ht rfl (hneg h1 hsi) (hneg h2 hdi) (hneg h3 hni) (by rw [cl_ix h1 hsi, cl_ix h3 hni]; omega) (by rw [cl_ix h2 hdi, cl_ix h3 hni]; omega) (fun i hi => rfl) (Nat.le_trans hf.1 hR.1) (by rw [cat_sum]; exact Nat.le_trans hf.2 hR.2) hd ?_
  rw [cl_ix h1 hsi, cl_ix h2 hdi, cl_ix h3 hni]
  have e : (Sum.inl (cA .int, n2, .inl (va_cpy (fun j => Int32.ofInt (M o1 j)) (fun j => Int32.ofInt (M o2 j)) sp.toNat dp.toNat n.toNat)) : va_E) = ent cA ad (cpyM M o1 sp.toNat o2 dp.toNat n.toNat) o2 := by
    rw [ent_a hk2, arP_i (Or.inl rfl)]
    congr 4
    funext j
    unfold va_cpy cpyM
    by_cases hj : dp.toNat ≤ j ∧ j < dp.toNat + n.toNat
    · rw [if_pos hj, if_pos ⟨rfl, hj⟩]
    · rw [if_neg hj, if_neg (fun z => hj z.2)]
  rw [e, set_wsO hq2 cpyM_ne]
  intro H1 locs1 hP1 hD1 hS1
  refine w ?_ hL hrest ls H1 locs1 hlv ⟨hP1, hD1, hS1⟩
  intro o j
  unfold cpyM
  split
  next h => rw [h.1, sty_a hk2]; have h9 := hM o1 (sp.toNat + (j - dp.toNat)); rw [sty_a hk1] at h9; exact h9
  next h => exact hM o j
-- ===== the script, in the law
theorem Runs.sld {i : Int} (hm : m.1 = yL_law) (hX : ∀ j, inI (X.2 j)) (hd : decode m.2.1 pc = .ok (.iaload, 1)) (h0 : 0 ≤ i) (h1 : i < X.1) (kk : Runs X m (pc + 1) loc (vi (X.2 i.toNat) :: st) M P) : Runs X m pc loc (vi i :: vr 999 :: st) M P := by
  refine Runs.lift (fun p l e R s mid args below meth c cells slots D cA ad A Q C w => ?_) kk
  intro hM hL hS ls H locs hlv hH
  obtain ⟨hx, hb, hml, hown, hts, hN, hK, hA, hR, hcs, hscr⟩ := C
  obtain ⟨s1, s2, s3⟩ := hscr hm
  have hi0 : inI i := wfS_h hS
  have k := w hM hL (wfS_c (v := vi (X.2 i.toNat)) (hX _) (wfS_t (wfS_t hS))) ls H locs hlv hH
  refine va_sld hx hb s1 s2 s3 hH.2.2 (in_ix h0 h1 hi0) hd ?_
  rw [cl_ix h0 hi0]
  exact k
theorem Runs.slen (hm : m.1 = yL_law) (hX : X.1 < 2147483648) (hd : decode m.2.1 pc = .ok (.arraylength, 1)) (kk : Runs X m (pc + 1) loc (vi (X.1 : Int) :: st) M P) : Runs X m pc loc (vr 999 :: st) M P := by
  refine Runs.lift (fun p l e R s mid args below meth c cells slots D cA ad A Q C w => ?_) kk
  intro hM hL hS ls H locs hlv hH
  obtain ⟨hx, hb, hml, hown, hts, hN, hK, hA, hR, hcs, hscr⟩ := C
  obtain ⟨s1, s2, s3⟩ := hscr hm
  have k := w hM hL (wfS_c (v := vi (X.1 : Int)) (show inI (X.1 : Int) from ⟨by omega, by omega⟩) (wfS_t hS)) ls H locs hlv hH
  refine va_slen hx hb s1 s2 s3 hH.2.2 hd ?_
  rw [← Int32.ofInt_eq_ofNat]
  exact k
end RX
end
