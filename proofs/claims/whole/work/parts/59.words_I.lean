/-! ===== printed by program: the constructors words, records, decode rows ===== -/
def mX6_init : MR := (yX6_init, cX6_init, 1, none, 1, 12)
theorem oc_X6_init : okC mX6_init 0 := ⟨⟨by decide +kernel, by decide +kernel⟩, tb_t (tl_1 42 rfl) rfl, tb_t (tl_1 3 rfl) rfl, by decide +kernel, by decide +kernel, by decide +kernel⟩
theorem im_X6_init : Cond.instanceMethod mX6_init.1 ∈ TB := tb_t (tl_1 41 rfl) rfl
theorem inst_X6 : Cond.instantiable RX6 2 ∈ TB := tb_t (tl_1 39 rfl) rfl
def mX7_init : MR := (yX7_init, cX7_init, 1, none, 1, 12)
theorem oc_X7_init : okC mX7_init 0 := ⟨⟨by decide +kernel, by decide +kernel⟩, tb_t (tl_1 27 rfl) rfl, tb_t (tl_1 2 rfl) rfl, by decide +kernel, by decide +kernel, by decide +kernel⟩
theorem im_X7_init : Cond.instanceMethod mX7_init.1 ∈ TB := tb_t (tl_1 26 rfl) rfl
theorem inst_X7 : Cond.instantiable RX7 2 ∈ TB := tb_t (tl_1 24 rfl) rfl
def mX1_init : MR := (yX1_init, cX1_init, 1, none, 1, 12)
theorem oc_X1_init : okC mX1_init 0 := ⟨⟨by decide +kernel, by decide +kernel⟩, tb_t (tl_1 57 rfl) rfl, tb_t (tl_1 4 rfl) rfl, by decide +kernel, by decide +kernel, by decide +kernel⟩
theorem im_X1_init : Cond.instanceMethod mX1_init.1 ∈ TB := tb_t (tl_1 56 rfl) rfl
theorem inst_X1 : Cond.instantiable RX1 3 ∈ TB := tb_t (tl_1 54 rfl) rfl
def mX2_init : MR := (yX2_init, cX2_init, 1, none, 1, 12)
theorem oc_X2_init : okC mX2_init 0 := ⟨⟨by decide +kernel, by decide +kernel⟩, tb_t (tl_1 109 rfl) rfl, tb_t (tl_1 8 rfl) rfl, by decide +kernel, by decide +kernel, by decide +kernel⟩
theorem im_X2_init : Cond.instanceMethod mX2_init.1 ∈ TB := tb_t (tl_1 108 rfl) rfl
theorem inst_X2 : Cond.instantiable RX2 4 ∈ TB := tb_t (tl_1 106 rfl) rfl
def mX4_init : MR := (yX4_init, cX4_init, 1, none, 1, 12)
theorem oc_X4_init : okC mX4_init 0 := ⟨⟨by decide +kernel, by decide +kernel⟩, tb_t (tl_1 132 rfl) rfl, tb_t (tl_1 9 rfl) rfl, by decide +kernel, by decide +kernel, by decide +kernel⟩
theorem im_X4_init : Cond.instanceMethod mX4_init.1 ∈ TB := tb_t (tl_1 131 rfl) rfl
theorem inst_X4 : Cond.instantiable RX4 4 ∈ TB := tb_t (tl_1 129 rfl) rfl
def mX3_init : MR := (yX3_init, cX3_init, 1, none, 1, 23)
theorem oc_X3_init : okC mX3_init 0 := ⟨⟨by decide +kernel, by decide +kernel⟩, tb_t (tl_1 91 rfl) rfl, tb_t (tl_1 6 rfl) rfl, by decide +kernel, by decide +kernel, by decide +kernel⟩
theorem im_X3_init : Cond.instanceMethod mX3_init.1 ∈ TB := tb_t (tl_1 90 rfl) rfl
theorem inst_X3 : Cond.instantiable RX3 2 ∈ TB := tb_t (tl_1 88 rfl) rfl
def mX0_init : MR := (yX0_init, cX0_init, 2, none, 2, 32)
theorem oc_X0_init : okC mX0_init 0 := ⟨⟨by decide +kernel, by decide +kernel⟩, tb_t (tl_1 74 rfl) rfl, tb_t (tl_1 5 rfl) rfl, by decide +kernel, by decide +kernel, by decide +kernel⟩
theorem im_X0_init : Cond.instanceMethod mX0_init.1 ∈ TB := tb_t (tl_1 73 rfl) rfl
theorem inst_X0 : Cond.instantiable RX0 2 ∈ TB := tb_t (tl_1 71 rfl) rfl
def mX5_init : MR := (yX5_init, cX5_init, 1, none, 3, 53)
theorem oc_X5_init : okC mX5_init 0 := ⟨⟨by decide +kernel, by decide +kernel⟩, tb_t (tl_1 154 rfl) rfl, tb_t (tl_1 10 rfl) rfl, by decide +kernel, by decide +kernel, by decide +kernel⟩
theorem im_X5_init : Cond.instanceMethod mX5_init.1 ∈ TB := tb_t (tl_1 153 rfl) rfl
theorem inst_X5 : Cond.instantiable RX5 4 ∈ TB := tb_t (tl_1 151 rfl) rfl
def mX8_init : MR := (yX8_init, cX8_init, 2, none, 4, 73)
theorem oc_X8_init : okC mX8_init 0 := ⟨⟨by decide +kernel, by decide +kernel⟩, tb_t (tl_1 19 rfl) rfl, tb_t (tl_1 1 rfl) rfl, by decide +kernel, by decide +kernel, by decide +kernel⟩
theorem im_X8_init : Cond.instanceMethod mX8_init.1 ∈ TB := tb_t (tl_1 18 rfl) rfl
theorem inst_X8 : Cond.instantiable RX8 12 ∈ TB := tb_t (tl_1 16 rfl) rfl
def mX9_init : MR := (yX9_init, cX9_init, 2, none, 1, 12)
theorem oc_X9_init : okC mX9_init 0 := ⟨⟨by decide +kernel, by decide +kernel⟩, tb_t (tl_3 148 rfl) rfl, tb_t (tl_1 11 rfl) rfl, by decide +kernel, by decide +kernel, by decide +kernel⟩
theorem im_X9_init : Cond.instanceMethod mX9_init.1 ∈ TB := tb_t (tl_3 147 rfl) rfl
theorem inst_X9 : Cond.instantiable RX9 48 ∈ TB := tb_t (tl_3 145 rfl) rfl
theorem obj_I : Cond.instanceMethod Lib.objectInit ∈ TB := tb_t (tl_1 21 rfl) rfl
theorem obj_C : Cond.code Lib.objectInit ⟨#[0xb1]⟩ 1 none ∈ TB := tb_t (tl_1 22 rfl) rfl
theorem ac_int : Cond.arrayClass .int ∈ TB := tb_t (tl_1 52 rfl) rfl
theorem ac_byte : Cond.arrayClass .byte ∈ TB := tb_t (tl_1 37 rfl) rfl
theorem ac_boolean : Cond.arrayClass .boolean ∈ TB := tb_t (tl_4 55 rfl) rfl
theorem ao_Slot : Cond.arrayOver (.object "TeethForCoins$Slot") ∈ tables_1 := tl_1 104 rfl
theorem ao_Teeth : Cond.arrayOver (.object "TeethForCoins$Teeth") ∈ tables_1 := tl_1 77 rfl
theorem dX6_init_0 : decode cX6_init 0 = .ok (.aload_n 0, 1) := by decide +kernel
theorem dX6_init_1 : decode cX6_init 1 = .ok (.invokespecial 5, 3) := by decide +kernel
theorem obj_X6 : Cond.methodLink RX6 5 Lib.objectInit ∈ TB := tb_t (tl_1 43 rfl) rfl
theorem dX6_init_4 : decode cX6_init 4 = .ok (.aload_n 0, 1) := by decide +kernel
theorem dX6_init_5 : decode cX6_init 5 = .ok (.sipush 150, 3) := by decide +kernel
theorem dX6_init_8 : decode cX6_init 8 = .ok (.newarray .int, 2) := by decide +kernel
theorem dX6_init_10 : decode cX6_init 10 = .ok (.putfield 11, 3) := by decide +kernel
theorem flI_X6_11 : Cond.fieldLink RX6 11 "TeethForCoins$Teeth" "cells" "[I" ∈ TB := tb_t (tl_1 44 rfl) rfl
theorem dX6_init_13 : decode cX6_init 13 = .ok (.aload_n 0, 1) := by decide +kernel
theorem dX6_init_14 : decode cX6_init 14 = .ok (.iconst 0, 1) := by decide +kernel
theorem dX6_init_15 : decode cX6_init 15 = .ok (.putfield 15, 3) := by decide +kernel
theorem flI_X6_15 : Cond.fieldLink RX6 15 "TeethForCoins$Teeth" "count" "I" ∈ TB := tb_t (tl_1 45 rfl) rfl
theorem dX6_init_18 : decode cX6_init 18 = .ok (.return_, 1) := by decide +kernel
theorem dX7_init_0 : decode cX7_init 0 = .ok (.aload_n 0, 1) := by decide +kernel
theorem dX7_init_1 : decode cX7_init 1 = .ok (.invokespecial 3, 3) := by decide +kernel
theorem obj_X7 : Cond.methodLink RX7 3 Lib.objectInit ∈ TB := tb_t (tl_1 28 rfl) rfl
theorem dX7_init_4 : decode cX7_init 4 = .ok (.aload_n 0, 1) := by decide +kernel
theorem dX7_init_5 : decode cX7_init 5 = .ok (.bipush 72, 2) := by decide +kernel
theorem dX7_init_7 : decode cX7_init 7 = .ok (.newarray .byte, 2) := by decide +kernel
theorem dX7_init_9 : decode cX7_init 9 = .ok (.putfield 9, 3) := by decide +kernel
theorem flI_X7_9 : Cond.fieldLink RX7 9 "TeethForCoins$Text" "bytes" "[B" ∈ TB := tb_t (tl_1 29 rfl) rfl
theorem dX7_init_12 : decode cX7_init 12 = .ok (.aload_n 0, 1) := by decide +kernel
theorem dX7_init_13 : decode cX7_init 13 = .ok (.iconst 0, 1) := by decide +kernel
theorem dX7_init_14 : decode cX7_init 14 = .ok (.putfield 15, 3) := by decide +kernel
theorem flI_X7_15 : Cond.fieldLink RX7 15 "TeethForCoins$Text" "length" "I" ∈ TB := tb_t (tl_1 30 rfl) rfl
theorem dX7_init_17 : decode cX7_init 17 = .ok (.return_, 1) := by decide +kernel
theorem dX1_init_0 : decode cX1_init 0 = .ok (.aload_n 0, 1) := by decide +kernel
theorem dX1_init_1 : decode cX1_init 1 = .ok (.invokespecial 3, 3) := by decide +kernel
theorem obj_X1 : Cond.methodLink RX1 3 Lib.objectInit ∈ TB := tb_t (tl_1 58 rfl) rfl
theorem dX1_init_4 : decode cX1_init 4 = .ok (.aload_n 0, 1) := by decide +kernel
theorem dX1_init_5 : decode cX1_init 5 = .ok (.iconst 4, 1) := by decide +kernel
theorem dX1_init_6 : decode cX1_init 6 = .ok (.newarray .int, 2) := by decide +kernel
theorem dX1_init_8 : decode cX1_init 8 = .ok (.putfield 9, 3) := by decide +kernel
theorem flI_X1_9 : Cond.fieldLink RX1 9 "TeethForCoins$Goods" "prices" "[I" ∈ TB := tb_t (tl_1 59 rfl) rfl
theorem dX1_init_11 : decode cX1_init 11 = .ok (.aload_n 0, 1) := by decide +kernel
theorem dX1_init_12 : decode cX1_init 12 = .ok (.iconst 4, 1) := by decide +kernel
theorem dX1_init_13 : decode cX1_init 13 = .ok (.newarray .int, 2) := by decide +kernel
theorem dX1_init_15 : decode cX1_init 15 = .ok (.putfield 15, 3) := by decide +kernel
theorem flI_X1_15 : Cond.fieldLink RX1 15 "TeethForCoins$Goods" "uses" "[I" ∈ TB := tb_t (tl_1 60 rfl) rfl
theorem dX1_init_18 : decode cX1_init 18 = .ok (.aload_n 0, 1) := by decide +kernel
theorem dX1_init_19 : decode cX1_init 19 = .ok (.iconst 0, 1) := by decide +kernel
theorem dX1_init_20 : decode cX1_init 20 = .ok (.putfield 18, 3) := by decide +kernel
theorem flI_X1_18 : Cond.fieldLink RX1 18 "TeethForCoins$Goods" "count" "I" ∈ TB := tb_t (tl_1 61 rfl) rfl
theorem dX1_init_23 : decode cX1_init 23 = .ok (.return_, 1) := by decide +kernel
theorem dX2_init_0 : decode cX2_init 0 = .ok (.aload_n 0, 1) := by decide +kernel
theorem dX2_init_1 : decode cX2_init 1 = .ok (.invokespecial 1, 3) := by decide +kernel
theorem obj_X2 : Cond.methodLink RX2 1 Lib.objectInit ∈ TB := tb_t (tl_1 110 rfl) rfl
theorem dX2_init_4 : decode cX2_init 4 = .ok (.aload_n 0, 1) := by decide +kernel
theorem dX2_init_5 : decode cX2_init 5 = .ok (.iconst 0, 1) := by decide +kernel
theorem dX2_init_6 : decode cX2_init 6 = .ok (.putfield 7, 3) := by decide +kernel
theorem flI_X2_7 : Cond.fieldLink RX2 7 "TeethForCoins$Least" "found" "Z" ∈ TB := tb_t (tl_1 111 rfl) rfl
theorem dX2_init_9 : decode cX2_init 9 = .ok (.aload_n 0, 1) := by decide +kernel
theorem dX2_init_10 : decode cX2_init 10 = .ok (.iconst 0, 1) := by decide +kernel
theorem dX2_init_11 : decode cX2_init 11 = .ok (.putfield 13, 3) := by decide +kernel
theorem flI_X2_13 : Cond.fieldLink RX2 13 "TeethForCoins$Least" "first" "I" ∈ TB := tb_t (tl_1 113 rfl) rfl
theorem dX2_init_14 : decode cX2_init 14 = .ok (.aload_n 0, 1) := by decide +kernel
theorem dX2_init_15 : decode cX2_init 15 = .ok (.iconst 0, 1) := by decide +kernel
theorem dX2_init_16 : decode cX2_init 16 = .ok (.putfield 17, 3) := by decide +kernel
theorem flI_X2_17 : Cond.fieldLink RX2 17 "TeethForCoins$Least" "second" "I" ∈ TB := tb_t (tl_1 115 rfl) rfl
theorem dX2_init_19 : decode cX2_init 19 = .ok (.aload_n 0, 1) := by decide +kernel
theorem dX2_init_20 : decode cX2_init 20 = .ok (.iconst 0, 1) := by decide +kernel
theorem dX2_init_21 : decode cX2_init 21 = .ok (.putfield 20, 3) := by decide +kernel
theorem flI_X2_20 : Cond.fieldLink RX2 20 "TeethForCoins$Least" "third" "I" ∈ TB := tb_t (tl_1 117 rfl) rfl
theorem dX2_init_24 : decode cX2_init 24 = .ok (.return_, 1) := by decide +kernel
theorem dX4_init_0 : decode cX4_init 0 = .ok (.aload_n 0, 1) := by decide +kernel
theorem dX4_init_1 : decode cX4_init 1 = .ok (.invokespecial 1, 3) := by decide +kernel
theorem obj_X4 : Cond.methodLink RX4 1 Lib.objectInit ∈ TB := tb_t (tl_1 133 rfl) rfl
theorem dX4_init_4 : decode cX4_init 4 = .ok (.aload_n 0, 1) := by decide +kernel
theorem dX4_init_5 : decode cX4_init 5 = .ok (.iconst 0, 1) := by decide +kernel
theorem dX4_init_6 : decode cX4_init 6 = .ok (.putfield 7, 3) := by decide +kernel
theorem flI_X4_7 : Cond.fieldLink RX4 7 "TeethForCoins$Ring" "code" "I" ∈ TB := tb_t (tl_1 134 rfl) rfl
theorem dX4_init_9 : decode cX4_init 9 = .ok (.aload_n 0, 1) := by decide +kernel
theorem dX4_init_10 : decode cX4_init 10 = .ok (.iconst 0, 1) := by decide +kernel
theorem dX4_init_11 : decode cX4_init 11 = .ok (.putfield 13, 3) := by decide +kernel
theorem flI_X4_13 : Cond.fieldLink RX4 13 "TeethForCoins$Ring" "many" "I" ∈ TB := tb_t (tl_1 136 rfl) rfl
theorem dX4_init_14 : decode cX4_init 14 = .ok (.aload_n 0, 1) := by decide +kernel
theorem dX4_init_15 : decode cX4_init 15 = .ok (.lconst 0, 1) := by decide +kernel
theorem dX4_init_16 : decode cX4_init 16 = .ok (.putfield 16, 3) := by decide +kernel
theorem flI_X4_16 : Cond.fieldLink RX4 16 "TeethForCoins$Ring" "got" "J" ∈ TB := tb_t (tl_1 138 rfl) rfl
theorem dX4_init_19 : decode cX4_init 19 = .ok (.aload_n 0, 1) := by decide +kernel
theorem dX4_init_20 : decode cX4_init 20 = .ok (.lconst 1, 1) := by decide +kernel
theorem dX4_init_21 : decode cX4_init 21 = .ok (.putfield 20, 3) := by decide +kernel
theorem flI_X4_20 : Cond.fieldLink RX4 20 "TeethForCoins$Ring" "given" "J" ∈ TB := tb_t (tl_1 140 rfl) rfl
theorem dX4_init_24 : decode cX4_init 24 = .ok (.return_, 1) := by decide +kernel
theorem dX3_init_0 : decode cX3_init 0 = .ok (.aload_n 0, 1) := by decide +kernel
theorem dX3_init_1 : decode cX3_init 1 = .ok (.invokespecial 3, 3) := by decide +kernel
theorem obj_X3 : Cond.methodLink RX3 3 Lib.objectInit ∈ TB := tb_t (tl_1 92 rfl) rfl
theorem dX3_init_4 : decode cX3_init 4 = .ok (.aload_n 0, 1) := by decide +kernel
theorem dX3_init_5 : decode cX3_init 5 = .ok (.bipush 16, 2) := by decide +kernel
theorem dX3_init_7 : decode cX3_init 7 = .ok (.newarray .int, 2) := by decide +kernel
theorem dX3_init_9 : decode cX3_init 9 = .ok (.putfield 9, 3) := by decide +kernel
theorem flI_X3_9 : Cond.fieldLink RX3 9 "TeethForCoins$Rates" "got" "[I" ∈ TB := tb_t (tl_1 96 rfl) rfl
theorem dX3_init_12 : decode cX3_init 12 = .ok (.aload_n 0, 1) := by decide +kernel
theorem dX3_init_13 : decode cX3_init 13 = .ok (.bipush 16, 2) := by decide +kernel
theorem dX3_init_15 : decode cX3_init 15 = .ok (.newarray .int, 2) := by decide +kernel
theorem dX3_init_17 : decode cX3_init 17 = .ok (.putfield 15, 3) := by decide +kernel
theorem flI_X3_15 : Cond.fieldLink RX3 15 "TeethForCoins$Rates" "given" "[I" ∈ TB := tb_t (tl_1 97 rfl) rfl
theorem dX3_init_20 : decode cX3_init 20 = .ok (.aload_n 0, 1) := by decide +kernel
theorem dX3_init_21 : decode cX3_init 21 = .ok (.getfield 9, 3) := by decide +kernel
theorem dX3_init_24 : decode cX3_init 24 = .ok (.iconst 1, 1) := by decide +kernel
theorem dX3_init_25 : decode cX3_init 25 = .ok (.invokestatic 18, 3) := by decide +kernel
theorem sl_X3_18 : Cond.methodLink RX3 18 yJ7_fill_53178 ∈ TB := tb_t (tl_1 93 rfl) rfl
theorem dX3_init_28 : decode cX3_init 28 = .ok (.aload_n 0, 1) := by decide +kernel
theorem dX3_init_29 : decode cX3_init 29 = .ok (.getfield 15, 3) := by decide +kernel
theorem dX3_init_32 : decode cX3_init 32 = .ok (.iconst 1, 1) := by decide +kernel
theorem dX3_init_33 : decode cX3_init 33 = .ok (.invokestatic 18, 3) := by decide +kernel
theorem dX3_init_36 : decode cX3_init 36 = .ok (.return_, 1) := by decide +kernel
theorem dX0_init_0 : decode cX0_init 0 = .ok (.aload_n 0, 1) := by decide +kernel
theorem dX0_init_1 : decode cX0_init 1 = .ok (.invokespecial 3, 3) := by decide +kernel
theorem obj_X0 : Cond.methodLink RX0 3 Lib.objectInit ∈ TB := tb_t (tl_1 75 rfl) rfl
theorem dX0_init_4 : decode cX0_init 4 = .ok (.aload_n 0, 1) := by decide +kernel
theorem dX0_init_5 : decode cX0_init 5 = .ok (.bipush 8, 2) := by decide +kernel
theorem dX0_init_7 : decode cX0_init 7 = .ok (.anewarray 9, 3) := by decide +kernel
theorem clI_X0_9 : Cond.classLink RX0 9 "TeethForCoins$Teeth" ∈ TB := tb_t (tl_1 76 rfl) rfl
theorem dX0_init_10 : decode cX0_init 10 = .ok (.putfield 11, 3) := by decide +kernel
theorem flI_X0_11 : Cond.fieldLink RX0 11 "TeethForCoins$Bargains" "ahead" "[LTeethForCoins$Teeth;" ∈ TB := tb_t (tl_1 79 rfl) rfl
theorem dX0_init_13 : decode cX0_init 13 = .ok (.aload_n 0, 1) := by decide +kernel
theorem dX0_init_14 : decode cX0_init 14 = .ok (.iconst 0, 1) := by decide +kernel
theorem dX0_init_15 : decode cX0_init 15 = .ok (.putfield 17, 3) := by decide +kernel
theorem flI_X0_17 : Cond.fieldLink RX0 17 "TeethForCoins$Bargains" "made" "I" ∈ TB := tb_t (tl_1 80 rfl) rfl
theorem dX0_init_18 : decode cX0_init 18 = .ok (.iconst 0, 1) := by decide +kernel
theorem dX0_init_19 : decode cX0_init 19 = .ok (.istore_n 1, 1) := by decide +kernel
theorem dX0_init_20 : decode cX0_init 20 = .ok (.iload_n 1, 1) := by decide +kernel
theorem dX0_init_21 : decode cX0_init 21 = .ok (.aload_n 0, 1) := by decide +kernel
theorem dX0_init_22 : decode cX0_init 22 = .ok (.getfield 11, 3) := by decide +kernel
theorem dX0_init_25 : decode cX0_init 25 = .ok (.arraylength, 1) := by decide +kernel
theorem dX0_init_26 : decode cX0_init 26 = .ok (.if_icmp .ge 22, 3) := by decide +kernel
theorem dX0_init_29 : decode cX0_init 29 = .ok (.aload_n 0, 1) := by decide +kernel
theorem dX0_init_30 : decode cX0_init 30 = .ok (.getfield 11, 3) := by decide +kernel
theorem dX0_init_33 : decode cX0_init 33 = .ok (.iload_n 1, 1) := by decide +kernel
theorem dX0_init_34 : decode cX0_init 34 = .ok (.new 9, 3) := by decide +kernel
theorem dX0_init_37 : decode cX0_init 37 = .ok (.dup, 1) := by decide +kernel
theorem dX0_init_38 : decode cX0_init 38 = .ok (.invokespecial 21, 3) := by decide +kernel
theorem mlI_X0_21 : ML RX0 21 yX6_init := Or.inr ⟨"TeethForCoins", tl_1 78 rfl⟩
theorem dX0_init_41 : decode cX0_init 41 = .ok (.aastore, 1) := by decide +kernel
theorem dX0_init_42 : decode cX0_init 42 = .ok (.iinc 1 1, 3) := by decide +kernel
theorem dX0_init_45 : decode cX0_init 45 = .ok (.goto (-25), 3) := by decide +kernel
theorem dX0_init_48 : decode cX0_init 48 = .ok (.return_, 1) := by decide +kernel
theorem dX5_init_0 : decode cX5_init 0 = .ok (.aload_n 0, 1) := by decide +kernel
theorem dX5_init_1 : decode cX5_init 1 = .ok (.invokespecial 1, 3) := by decide +kernel
theorem obj_X5 : Cond.methodLink RX5 1 Lib.objectInit ∈ TB := tb_t (tl_1 155 rfl) rfl
theorem dX5_init_4 : decode cX5_init 4 = .ok (.aload_n 0, 1) := by decide +kernel
theorem dX5_init_5 : decode cX5_init 5 = .ok (.new 7, 3) := by decide +kernel
theorem clI_X5_7 : Cond.classLink RX5 7 "TeethForCoins$Teeth" ∈ TB := tb_t (tl_1 156 rfl) rfl
theorem dX5_init_8 : decode cX5_init 8 = .ok (.dup, 1) := by decide +kernel
theorem dX5_init_9 : decode cX5_init 9 = .ok (.invokespecial 9, 3) := by decide +kernel
theorem mlI_X5_9 : ML RX5 9 yX6_init := Or.inr ⟨"TeethForCoins", tl_1 157 rfl⟩
theorem dX5_init_12 : decode cX5_init 12 = .ok (.putfield 10, 3) := by decide +kernel
theorem flI_X5_10 : Cond.fieldLink RX5 10 "TeethForCoins$Slot" "teeth" "LTeethForCoins$Teeth;" ∈ TB := tb_t (tl_1 162 rfl) rfl
theorem dX5_init_15 : decode cX5_init 15 = .ok (.aload_n 0, 1) := by decide +kernel
theorem dX5_init_16 : decode cX5_init 16 = .ok (.new 16, 3) := by decide +kernel
theorem clI_X5_16 : Cond.classLink RX5 16 "TeethForCoins$Bargains" ∈ TB := tb_t (tl_1 158 rfl) rfl
theorem dX5_init_19 : decode cX5_init 19 = .ok (.dup, 1) := by decide +kernel
theorem dX5_init_20 : decode cX5_init 20 = .ok (.invokespecial 18, 3) := by decide +kernel
theorem mlI_X5_18 : ML RX5 18 yX0_init := Or.inr ⟨"TeethForCoins", tl_1 159 rfl⟩
theorem dX5_init_23 : decode cX5_init 23 = .ok (.putfield 19, 3) := by decide +kernel
theorem flI_X5_19 : Cond.fieldLink RX5 19 "TeethForCoins$Slot" "bargains" "LTeethForCoins$Bargains;" ∈ TB := tb_t (tl_1 163 rfl) rfl
theorem dX5_init_26 : decode cX5_init 26 = .ok (.aload_n 0, 1) := by decide +kernel
theorem dX5_init_27 : decode cX5_init 27 = .ok (.new 23, 3) := by decide +kernel
theorem clI_X5_23 : Cond.classLink RX5 23 "TeethForCoins$Rates" ∈ TB := tb_t (tl_1 160 rfl) rfl
theorem dX5_init_30 : decode cX5_init 30 = .ok (.dup, 1) := by decide +kernel
theorem dX5_init_31 : decode cX5_init 31 = .ok (.invokespecial 25, 3) := by decide +kernel
theorem mlI_X5_25 : ML RX5 25 yX3_init := Or.inr ⟨"TeethForCoins", tl_1 161 rfl⟩
theorem dX5_init_34 : decode cX5_init 34 = .ok (.putfield 26, 3) := by decide +kernel
theorem flI_X5_26 : Cond.fieldLink RX5 26 "TeethForCoins$Slot" "rates" "LTeethForCoins$Rates;" ∈ TB := tb_t (tl_1 164 rfl) rfl
theorem dX5_init_37 : decode cX5_init 37 = .ok (.aload_n 0, 1) := by decide +kernel
theorem dX5_init_38 : decode cX5_init 38 = .ok (.iconst 0, 1) := by decide +kernel
theorem dX5_init_39 : decode cX5_init 39 = .ok (.putfield 30, 3) := by decide +kernel
theorem flI_X5_30 : Cond.fieldLink RX5 30 "TeethForCoins$Slot" "full" "Z" ∈ TB := tb_t (tl_1 165 rfl) rfl
theorem dX5_init_42 : decode cX5_init 42 = .ok (.return_, 1) := by decide +kernel
theorem dX8_init_0 : decode cX8_init 0 = .ok (.aload_n 0, 1) := by decide +kernel
theorem dX8_init_1 : decode cX8_init 1 = .ok (.invokespecial 1, 3) := by decide +kernel
theorem obj_X8 : Cond.methodLink RX8 1 Lib.objectInit ∈ TB := tb_t (tl_1 20 rfl) rfl
theorem dX8_init_4 : decode cX8_init 4 = .ok (.aload_n 0, 1) := by decide +kernel
theorem dX8_init_5 : decode cX8_init 5 = .ok (.new 7, 3) := by decide +kernel
theorem clI_X8_7 : Cond.classLink RX8 7 "TeethForCoins$Text" ∈ TB := tb_t (tl_1 23 rfl) rfl
theorem dX8_init_8 : decode cX8_init 8 = .ok (.dup, 1) := by decide +kernel
theorem dX8_init_9 : decode cX8_init 9 = .ok (.invokespecial 9, 3) := by decide +kernel
theorem mlI_X8_9 : ML RX8 9 yX7_init := Or.inr ⟨"TeethForCoins", tl_1 25 rfl⟩
theorem dX8_init_12 : decode cX8_init 12 = .ok (.putfield 10, 3) := by decide +kernel
theorem flI_X8_10 : Cond.fieldLink RX8 10 "TeethForCoins" "text" "LTeethForCoins$Text;" ∈ TB := tb_t (tl_1 176 rfl) rfl
theorem dX8_init_15 : decode cX8_init 15 = .ok (.aload_n 0, 1) := by decide +kernel
theorem dX8_init_16 : decode cX8_init 16 = .ok (.new 16, 3) := by decide +kernel
theorem clI_X8_16 : Cond.classLink RX8 16 "TeethForCoins$Teeth" ∈ TB := tb_t (tl_1 38 rfl) rfl
theorem dX8_init_19 : decode cX8_init 19 = .ok (.dup, 1) := by decide +kernel
theorem dX8_init_20 : decode cX8_init 20 = .ok (.invokespecial 18, 3) := by decide +kernel
theorem mlI_X8_18 : ML RX8 18 yX6_init := Or.inr ⟨"TeethForCoins", tl_1 40 rfl⟩
theorem dX8_init_23 : decode cX8_init 23 = .ok (.putfield 19, 3) := by decide +kernel
theorem flI_X8_19 : Cond.fieldLink RX8 19 "TeethForCoins" "teeth" "LTeethForCoins$Teeth;" ∈ TB := tb_t (tl_1 177 rfl) rfl
theorem dX8_init_26 : decode cX8_init 26 = .ok (.aload_n 0, 1) := by decide +kernel
theorem dX8_init_27 : decode cX8_init 27 = .ok (.new 23, 3) := by decide +kernel
theorem clI_X8_23 : Cond.classLink RX8 23 "TeethForCoins$Goods" ∈ TB := tb_t (tl_1 53 rfl) rfl
theorem dX8_init_30 : decode cX8_init 30 = .ok (.dup, 1) := by decide +kernel
theorem dX8_init_31 : decode cX8_init 31 = .ok (.invokespecial 25, 3) := by decide +kernel
theorem mlI_X8_25 : ML RX8 25 yX1_init := Or.inr ⟨"TeethForCoins", tl_1 55 rfl⟩
theorem dX8_init_34 : decode cX8_init 34 = .ok (.putfield 26, 3) := by decide +kernel
theorem flI_X8_26 : Cond.fieldLink RX8 26 "TeethForCoins" "goods" "LTeethForCoins$Goods;" ∈ TB := tb_t (tl_1 178 rfl) rfl
theorem dX8_init_37 : decode cX8_init 37 = .ok (.aload_n 0, 1) := by decide +kernel
theorem dX8_init_38 : decode cX8_init 38 = .ok (.new 30, 3) := by decide +kernel
theorem clI_X8_30 : Cond.classLink RX8 30 "TeethForCoins$Bargains" ∈ TB := tb_t (tl_1 70 rfl) rfl
theorem dX8_init_41 : decode cX8_init 41 = .ok (.dup, 1) := by decide +kernel
theorem dX8_init_42 : decode cX8_init 42 = .ok (.invokespecial 32, 3) := by decide +kernel
theorem mlI_X8_32 : ML RX8 32 yX0_init := Or.inr ⟨"TeethForCoins", tl_1 72 rfl⟩
theorem dX8_init_45 : decode cX8_init 45 = .ok (.putfield 33, 3) := by decide +kernel
theorem flI_X8_33 : Cond.fieldLink RX8 33 "TeethForCoins" "bargains" "LTeethForCoins$Bargains;" ∈ TB := tb_t (tl_1 179 rfl) rfl
theorem dX8_init_48 : decode cX8_init 48 = .ok (.aload_n 0, 1) := by decide +kernel
theorem dX8_init_49 : decode cX8_init 49 = .ok (.new 37, 3) := by decide +kernel
theorem clI_X8_37 : Cond.classLink RX8 37 "TeethForCoins$Rates" ∈ TB := tb_t (tl_1 87 rfl) rfl
theorem dX8_init_52 : decode cX8_init 52 = .ok (.dup, 1) := by decide +kernel
theorem dX8_init_53 : decode cX8_init 53 = .ok (.invokespecial 39, 3) := by decide +kernel
theorem mlI_X8_39 : ML RX8 39 yX3_init := Or.inr ⟨"TeethForCoins", tl_1 89 rfl⟩
theorem dX8_init_56 : decode cX8_init 56 = .ok (.putfield 40, 3) := by decide +kernel
theorem flI_X8_40 : Cond.fieldLink RX8 40 "TeethForCoins" "rates" "LTeethForCoins$Rates;" ∈ TB := tb_t (tl_1 180 rfl) rfl
theorem dX8_init_59 : decode cX8_init 59 = .ok (.aload_n 0, 1) := by decide +kernel
theorem dX8_init_60 : decode cX8_init 60 = .ok (.iconst 2, 1) := by decide +kernel
theorem dX8_init_61 : decode cX8_init 61 = .ok (.anewarray 44, 3) := by decide +kernel
theorem clI_X8_44 : Cond.classLink RX8 44 "TeethForCoins$Slot" ∈ TB := tb_t (tl_1 103 rfl) rfl
theorem dX8_init_64 : decode cX8_init 64 = .ok (.putfield 46, 3) := by decide +kernel
theorem flI_X8_46 : Cond.fieldLink RX8 46 "TeethForCoins" "slots" "[LTeethForCoins$Slot;" ∈ TB := tb_t (tl_1 181 rfl) rfl
theorem dX8_init_67 : decode cX8_init 67 = .ok (.aload_n 0, 1) := by decide +kernel
theorem dX8_init_68 : decode cX8_init 68 = .ok (.iconst 1, 1) := by decide +kernel
theorem dX8_init_69 : decode cX8_init 69 = .ok (.putfield 50, 3) := by decide +kernel
theorem flI_X8_50 : Cond.fieldLink RX8 50 "TeethForCoins" "lossByWear" "I" ∈ TB := tb_t (tl_1 182 rfl) rfl
theorem dX8_init_72 : decode cX8_init 72 = .ok (.aload_n 0, 1) := by decide +kernel
theorem dX8_init_73 : decode cX8_init 73 = .ok (.iconst 1, 1) := by decide +kernel
theorem dX8_init_74 : decode cX8_init 74 = .ok (.putfield 54, 3) := by decide +kernel
theorem flI_X8_54 : Cond.fieldLink RX8 54 "TeethForCoins" "timesOfLeft" "I" ∈ TB := tb_t (tl_1 183 rfl) rfl
theorem dX8_init_77 : decode cX8_init 77 = .ok (.aload_n 0, 1) := by decide +kernel
theorem dX8_init_78 : decode cX8_init 78 = .ok (.new 57, 3) := by decide +kernel
theorem clI_X8_57 : Cond.classLink RX8 57 "TeethForCoins$Least" ∈ TB := tb_t (tl_1 105 rfl) rfl
theorem dX8_init_81 : decode cX8_init 81 = .ok (.dup, 1) := by decide +kernel
theorem dX8_init_82 : decode cX8_init 82 = .ok (.invokespecial 59, 3) := by decide +kernel
theorem mlI_X8_59 : ML RX8 59 yX2_init := Or.inr ⟨"TeethForCoins", tl_1 107 rfl⟩
theorem dX8_init_85 : decode cX8_init 85 = .ok (.putfield 60, 3) := by decide +kernel
theorem flI_X8_60 : Cond.fieldLink RX8 60 "TeethForCoins" "least" "LTeethForCoins$Least;" ∈ TB := tb_t (tl_1 184 rfl) rfl
theorem dX8_init_88 : decode cX8_init 88 = .ok (.aload_n 0, 1) := by decide +kernel
theorem dX8_init_89 : decode cX8_init 89 = .ok (.new 64, 3) := by decide +kernel
theorem clI_X8_64 : Cond.classLink RX8 64 "TeethForCoins$Ring" ∈ TB := tb_t (tl_1 128 rfl) rfl
theorem dX8_init_92 : decode cX8_init 92 = .ok (.dup, 1) := by decide +kernel
theorem dX8_init_93 : decode cX8_init 93 = .ok (.invokespecial 66, 3) := by decide +kernel
theorem mlI_X8_66 : ML RX8 66 yX4_init := Or.inr ⟨"TeethForCoins", tl_1 130 rfl⟩
theorem dX8_init_96 : decode cX8_init 96 = .ok (.putfield 67, 3) := by decide +kernel
theorem flI_X8_67 : Cond.fieldLink RX8 67 "TeethForCoins" "best" "LTeethForCoins$Ring;" ∈ TB := tb_t (tl_1 185 rfl) rfl
theorem dX8_init_99 : decode cX8_init 99 = .ok (.aload_n 0, 1) := by decide +kernel
theorem dX8_init_100 : decode cX8_init 100 = .ok (.sipush 1024, 3) := by decide +kernel
theorem dX8_init_103 : decode cX8_init 103 = .ok (.newarray .int, 2) := by decide +kernel
theorem dX8_init_105 : decode cX8_init 105 = .ok (.putfield 71, 3) := by decide +kernel
theorem flI_X8_71 : Cond.fieldLink RX8 71 "TeethForCoins" "balances" "[I" ∈ TB := tb_t (tl_1 186 rfl) rfl
theorem dX8_init_108 : decode cX8_init 108 = .ok (.aload_n 0, 1) := by decide +kernel
theorem dX8_init_109 : decode cX8_init 109 = .ok (.sipush 1000, 3) := by decide +kernel
theorem dX8_init_112 : decode cX8_init 112 = .ok (.newarray .int, 2) := by decide +kernel
theorem dX8_init_114 : decode cX8_init 114 = .ok (.putfield 75, 3) := by decide +kernel
theorem flI_X8_75 : Cond.fieldLink RX8 75 "TeethForCoins" "payable" "[I" ∈ TB := tb_t (tl_1 187 rfl) rfl
theorem dX8_init_117 : decode cX8_init 117 = .ok (.iconst 0, 1) := by decide +kernel
theorem dX8_init_118 : decode cX8_init 118 = .ok (.istore_n 1, 1) := by decide +kernel
theorem dX8_init_119 : decode cX8_init 119 = .ok (.iload_n 1, 1) := by decide +kernel
theorem dX8_init_120 : decode cX8_init 120 = .ok (.aload_n 0, 1) := by decide +kernel
theorem dX8_init_121 : decode cX8_init 121 = .ok (.getfield 46, 3) := by decide +kernel
theorem dX8_init_124 : decode cX8_init 124 = .ok (.arraylength, 1) := by decide +kernel
theorem dX8_init_125 : decode cX8_init 125 = .ok (.if_icmp .ge 22, 3) := by decide +kernel
theorem dX8_init_128 : decode cX8_init 128 = .ok (.aload_n 0, 1) := by decide +kernel
theorem dX8_init_129 : decode cX8_init 129 = .ok (.getfield 46, 3) := by decide +kernel
theorem dX8_init_132 : decode cX8_init 132 = .ok (.iload_n 1, 1) := by decide +kernel
theorem dX8_init_133 : decode cX8_init 133 = .ok (.new 44, 3) := by decide +kernel
theorem dX8_init_136 : decode cX8_init 136 = .ok (.dup, 1) := by decide +kernel
theorem dX8_init_137 : decode cX8_init 137 = .ok (.invokespecial 78, 3) := by decide +kernel
theorem mlI_X8_78 : ML RX8 78 yX5_init := Or.inr ⟨"TeethForCoins", tl_1 152 rfl⟩
theorem dX8_init_140 : decode cX8_init 140 = .ok (.aastore, 1) := by decide +kernel
theorem dX8_init_141 : decode cX8_init 141 = .ok (.iinc 1 1, 3) := by decide +kernel
theorem dX8_init_144 : decode cX8_init 144 = .ok (.goto (-25), 3) := by decide +kernel
theorem dX8_init_147 : decode cX8_init 147 = .ok (.return_, 1) := by decide +kernel
theorem dX9_init_0 : decode cX9_init 0 = .ok (.aload_n 0, 1) := by decide +kernel
theorem dX9_init_1 : decode cX9_init 1 = .ok (.invokespecial 1, 3) := by decide +kernel
theorem obj_X9 : Cond.methodLink RX9 1 Lib.objectInit ∈ TB := tb_t (tl_3 149 rfl) rfl
theorem dX9_init_4 : decode cX9_init 4 = .ok (.aload_n 0, 1) := by decide +kernel
theorem dX9_init_5 : decode cX9_init 5 = .ok (.bipush 72, 2) := by decide +kernel
theorem dX9_init_7 : decode cX9_init 7 = .ok (.newarray .int, 2) := by decide +kernel
theorem dX9_init_9 : decode cX9_init 9 = .ok (.putfield 7, 3) := by decide +kernel
theorem flI_X9_7 : Cond.fieldLink RX9 7 "TeethForCoinsModel" "text" "[I" ∈ TB := tb_t (tl_3 151 rfl) rfl
theorem dX9_init_12 : decode cX9_init 12 = .ok (.aload_n 0, 1) := by decide +kernel
theorem dX9_init_13 : decode cX9_init 13 = .ok (.iconst 1, 1) := by decide +kernel
theorem dX9_init_14 : decode cX9_init 14 = .ok (.putfield 13, 3) := by decide +kernel
theorem flI_X9_13 : Cond.fieldLink RX9 13 "TeethForCoinsModel" "loss" "I" ∈ TB := tb_t (tl_3 154 rfl) rfl
theorem dX9_init_17 : decode cX9_init 17 = .ok (.aload_n 0, 1) := by decide +kernel
theorem dX9_init_18 : decode cX9_init 18 = .ok (.iconst 1, 1) := by decide +kernel
theorem dX9_init_19 : decode cX9_init 19 = .ok (.putfield 17, 3) := by decide +kernel
theorem flI_X9_17 : Cond.fieldLink RX9 17 "TeethForCoinsModel" "times" "I" ∈ TB := tb_t (tl_3 155 rfl) rfl
theorem dX9_init_22 : decode cX9_init 22 = .ok (.aload_n 0, 1) := by decide +kernel
theorem dX9_init_23 : decode cX9_init 23 = .ok (.bipush 10, 2) := by decide +kernel
theorem dX9_init_25 : decode cX9_init 25 = .ok (.newarray .int, 2) := by decide +kernel
theorem dX9_init_27 : decode cX9_init 27 = .ok (.putfield 20, 3) := by decide +kernel
theorem flI_X9_20 : Cond.fieldLink RX9 20 "TeethForCoinsModel" "size" "[I" ∈ TB := tb_t (tl_3 157 rfl) rfl
theorem dX9_init_30 : decode cX9_init 30 = .ok (.aload_n 0, 1) := by decide +kernel
theorem dX9_init_31 : decode cX9_init 31 = .ok (.bipush 10, 2) := by decide +kernel
theorem dX9_init_33 : decode cX9_init 33 = .ok (.newarray .boolean, 2) := by decide +kernel
theorem dX9_init_35 : decode cX9_init 35 = .ok (.putfield 23, 3) := by decide +kernel
theorem flI_X9_23 : Cond.fieldLink RX9 23 "TeethForCoinsModel" "left" "[Z" ∈ TB := tb_t (tl_3 158 rfl) rfl
theorem dX9_init_38 : decode cX9_init 38 = .ok (.aload_n 0, 1) := by decide +kernel
theorem dX9_init_39 : decode cX9_init 39 = .ok (.bipush 10, 2) := by decide +kernel
theorem dX9_init_41 : decode cX9_init 41 = .ok (.newarray .int, 2) := by decide +kernel
theorem dX9_init_43 : decode cX9_init 43 = .ok (.putfield 27, 3) := by decide +kernel
theorem flI_X9_27 : Cond.fieldLink RX9 27 "TeethForCoinsModel" "wear" "[I" ∈ TB := tb_t (tl_3 159 rfl) rfl
theorem dX9_init_46 : decode cX9_init 46 = .ok (.aload_n 0, 1) := by decide +kernel
theorem dX9_init_47 : decode cX9_init 47 = .ok (.bipush 10, 2) := by decide +kernel
theorem dX9_init_49 : decode cX9_init 49 = .ok (.newarray .int, 2) := by decide +kernel
theorem dX9_init_51 : decode cX9_init 51 = .ok (.putfield 30, 3) := by decide +kernel
theorem flI_X9_30 : Cond.fieldLink RX9 30 "TeethForCoinsModel" "owner" "[I" ∈ TB := tb_t (tl_3 160 rfl) rfl
theorem dX9_init_54 : decode cX9_init 54 = .ok (.aload_n 0, 1) := by decide +kernel
theorem dX9_init_55 : decode cX9_init 55 = .ok (.bipush 10, 2) := by decide +kernel
theorem dX9_init_57 : decode cX9_init 57 = .ok (.newarray .boolean, 2) := by decide +kernel
theorem dX9_init_59 : decode cX9_init 59 = .ok (.putfield 33, 3) := by decide +kernel
theorem flI_X9_33 : Cond.fieldLink RX9 33 "TeethForCoinsModel" "fake" "[Z" ∈ TB := tb_t (tl_3 161 rfl) rfl
theorem dX9_init_62 : decode cX9_init 62 = .ok (.aload_n 0, 1) := by decide +kernel
theorem dX9_init_63 : decode cX9_init 63 = .ok (.bipush 10, 2) := by decide +kernel
theorem dX9_init_65 : decode cX9_init 65 = .ok (.newarray .int, 2) := by decide +kernel
theorem dX9_init_67 : decode cX9_init 67 = .ok (.putfield 36, 3) := by decide +kernel
theorem flI_X9_36 : Cond.fieldLink RX9 36 "TeethForCoinsModel" "should" "[I" ∈ TB := tb_t (tl_3 162 rfl) rfl
theorem dX9_init_70 : decode cX9_init 70 = .ok (.aload_n 0, 1) := by decide +kernel
theorem dX9_init_71 : decode cX9_init 71 = .ok (.bipush 10, 2) := by decide +kernel
theorem dX9_init_73 : decode cX9_init 73 = .ok (.newarray .int, 2) := by decide +kernel
theorem dX9_init_75 : decode cX9_init 75 = .ok (.putfield 39, 3) := by decide +kernel
theorem flI_X9_39 : Cond.fieldLink RX9 39 "TeethForCoinsModel" "traces" "[I" ∈ TB := tb_t (tl_3 163 rfl) rfl
theorem dX9_init_78 : decode cX9_init 78 = .ok (.aload_n 0, 1) := by decide +kernel
theorem dX9_init_79 : decode cX9_init 79 = .ok (.bipush 80, 2) := by decide +kernel
theorem dX9_init_81 : decode cX9_init 81 = .ok (.newarray .int, 2) := by decide +kernel
theorem dX9_init_83 : decode cX9_init 83 = .ok (.putfield 42, 3) := by decide +kernel
theorem flI_X9_42 : Cond.fieldLink RX9 42 "TeethForCoinsModel" "trace" "[I" ∈ TB := tb_t (tl_3 164 rfl) rfl
theorem dX9_init_86 : decode cX9_init 86 = .ok (.aload_n 0, 1) := by decide +kernel
theorem dX9_init_87 : decode cX9_init 87 = .ok (.iconst 4, 1) := by decide +kernel
theorem dX9_init_88 : decode cX9_init 88 = .ok (.newarray .int, 2) := by decide +kernel
theorem dX9_init_90 : decode cX9_init 90 = .ok (.putfield 45, 3) := by decide +kernel
theorem flI_X9_45 : Cond.fieldLink RX9 45 "TeethForCoinsModel" "price" "[I" ∈ TB := tb_t (tl_3 166 rfl) rfl
theorem dX9_init_93 : decode cX9_init 93 = .ok (.aload_n 0, 1) := by decide +kernel
theorem dX9_init_94 : decode cX9_init 94 = .ok (.iconst 4, 1) := by decide +kernel
theorem dX9_init_95 : decode cX9_init 95 = .ok (.newarray .int, 2) := by decide +kernel
theorem dX9_init_97 : decode cX9_init 97 = .ok (.putfield 48, 3) := by decide +kernel
theorem flI_X9_48 : Cond.fieldLink RX9 48 "TeethForCoinsModel" "use" "[I" ∈ TB := tb_t (tl_3 167 rfl) rfl
theorem dX9_init_100 : decode cX9_init 100 = .ok (.aload_n 0, 1) := by decide +kernel
theorem dX9_init_101 : decode cX9_init 101 = .ok (.bipush 10, 2) := by decide +kernel
theorem dX9_init_103 : decode cX9_init 103 = .ok (.newarray .int, 2) := by decide +kernel
theorem dX9_init_105 : decode cX9_init 105 = .ok (.putfield 51, 3) := by decide +kernel
theorem flI_X9_51 : Cond.fieldLink RX9 51 "TeethForCoinsModel" "readSize" "[I" ∈ TB := tb_t (tl_3 172 rfl) rfl
theorem dX9_init_108 : decode cX9_init 108 = .ok (.aload_n 0, 1) := by decide +kernel
theorem dX9_init_109 : decode cX9_init 109 = .ok (.bipush 10, 2) := by decide +kernel
theorem dX9_init_111 : decode cX9_init 111 = .ok (.newarray .boolean, 2) := by decide +kernel
theorem dX9_init_113 : decode cX9_init 113 = .ok (.putfield 54, 3) := by decide +kernel
theorem flI_X9_54 : Cond.fieldLink RX9 54 "TeethForCoinsModel" "readLeft" "[Z" ∈ TB := tb_t (tl_3 173 rfl) rfl
theorem dX9_init_116 : decode cX9_init 116 = .ok (.aload_n 0, 1) := by decide +kernel
theorem dX9_init_117 : decode cX9_init 117 = .ok (.bipush 10, 2) := by decide +kernel
theorem dX9_init_119 : decode cX9_init 119 = .ok (.newarray .int, 2) := by decide +kernel
theorem dX9_init_121 : decode cX9_init 121 = .ok (.putfield 57, 3) := by decide +kernel
theorem flI_X9_57 : Cond.fieldLink RX9 57 "TeethForCoinsModel" "readWear" "[I" ∈ TB := tb_t (tl_3 174 rfl) rfl
theorem dX9_init_124 : decode cX9_init 124 = .ok (.aload_n 0, 1) := by decide +kernel
theorem dX9_init_125 : decode cX9_init 125 = .ok (.bipush 10, 2) := by decide +kernel
theorem dX9_init_127 : decode cX9_init 127 = .ok (.newarray .int, 2) := by decide +kernel
theorem dX9_init_129 : decode cX9_init 129 = .ok (.putfield 60, 3) := by decide +kernel
theorem flI_X9_60 : Cond.fieldLink RX9 60 "TeethForCoinsModel" "readOwner" "[I" ∈ TB := tb_t (tl_3 175 rfl) rfl
theorem dX9_init_132 : decode cX9_init 132 = .ok (.aload_n 0, 1) := by decide +kernel
theorem dX9_init_133 : decode cX9_init 133 = .ok (.bipush 10, 2) := by decide +kernel
theorem dX9_init_135 : decode cX9_init 135 = .ok (.newarray .boolean, 2) := by decide +kernel
theorem dX9_init_137 : decode cX9_init 137 = .ok (.putfield 63, 3) := by decide +kernel
theorem flI_X9_63 : Cond.fieldLink RX9 63 "TeethForCoinsModel" "readFake" "[Z" ∈ TB := tb_t (tl_3 176 rfl) rfl
theorem dX9_init_140 : decode cX9_init 140 = .ok (.aload_n 0, 1) := by decide +kernel
theorem dX9_init_141 : decode cX9_init 141 = .ok (.iconst 4, 1) := by decide +kernel
theorem dX9_init_142 : decode cX9_init 142 = .ok (.newarray .int, 2) := by decide +kernel
theorem dX9_init_144 : decode cX9_init 144 = .ok (.putfield 66, 3) := by decide +kernel
theorem flI_X9_66 : Cond.fieldLink RX9 66 "TeethForCoinsModel" "readPrice" "[I" ∈ TB := tb_t (tl_3 177 rfl) rfl
theorem dX9_init_147 : decode cX9_init 147 = .ok (.aload_n 0, 1) := by decide +kernel
theorem dX9_init_148 : decode cX9_init 148 = .ok (.iconst 4, 1) := by decide +kernel
theorem dX9_init_149 : decode cX9_init 149 = .ok (.newarray .int, 2) := by decide +kernel
theorem dX9_init_151 : decode cX9_init 151 = .ok (.putfield 69, 3) := by decide +kernel
theorem flI_X9_69 : Cond.fieldLink RX9 69 "TeethForCoinsModel" "readUse" "[I" ∈ TB := tb_t (tl_3 178 rfl) rfl
theorem dX9_init_154 : decode cX9_init 154 = .ok (.aload_n 0, 1) := by decide +kernel
theorem dX9_init_155 : decode cX9_init 155 = .ok (.sipush 968, 3) := by decide +kernel
theorem dX9_init_158 : decode cX9_init 158 = .ok (.newarray .int, 2) := by decide +kernel
theorem dX9_init_160 : decode cX9_init 160 = .ok (.putfield 72, 3) := by decide +kernel
theorem flI_X9_72 : Cond.fieldLink RX9 72 "TeethForCoinsModel" "book" "[I" ∈ TB := tb_t (tl_3 179 rfl) rfl
theorem dX9_init_163 : decode cX9_init 163 = .ok (.aload_n 0, 1) := by decide +kernel
theorem dX9_init_164 : decode cX9_init 164 = .ok (.bipush 16, 2) := by decide +kernel
theorem dX9_init_166 : decode cX9_init 166 = .ok (.newarray .int, 2) := by decide +kernel
theorem dX9_init_168 : decode cX9_init 168 = .ok (.putfield 75, 3) := by decide +kernel
theorem flI_X9_75 : Cond.fieldLink RX9 75 "TeethForCoinsModel" "above" "[I" ∈ TB := tb_t (tl_3 181 rfl) rfl
theorem dX9_init_171 : decode cX9_init 171 = .ok (.aload_n 0, 1) := by decide +kernel
theorem dX9_init_172 : decode cX9_init 172 = .ok (.bipush 16, 2) := by decide +kernel
theorem dX9_init_174 : decode cX9_init 174 = .ok (.newarray .int, 2) := by decide +kernel
theorem dX9_init_176 : decode cX9_init 176 = .ok (.putfield 78, 3) := by decide +kernel
theorem flI_X9_78 : Cond.fieldLink RX9 78 "TeethForCoinsModel" "below" "[I" ∈ TB := tb_t (tl_3 182 rfl) rfl
theorem dX9_init_179 : decode cX9_init 179 = .ok (.aload_n 0, 1) := by decide +kernel
theorem dX9_init_180 : decode cX9_init 180 = .ok (.sipush 242, 3) := by decide +kernel
theorem dX9_init_183 : decode cX9_init 183 = .ok (.newarray .int, 2) := by decide +kernel
theorem dX9_init_185 : decode cX9_init 185 = .ok (.putfield 81, 3) := by decide +kernel
theorem flI_X9_81 : Cond.fieldLink RX9 81 "TeethForCoinsModel" "keptPage" "[I" ∈ TB := tb_t (tl_3 183 rfl) rfl
theorem dX9_init_188 : decode cX9_init 188 = .ok (.aload_n 0, 1) := by decide +kernel
theorem dX9_init_189 : decode cX9_init 189 = .ok (.bipush 60, 2) := by decide +kernel
theorem dX9_init_191 : decode cX9_init 191 = .ok (.newarray .int, 2) := by decide +kernel
theorem dX9_init_193 : decode cX9_init 193 = .ok (.putfield 84, 3) := by decide +kernel
theorem flI_X9_84 : Cond.fieldLink RX9 84 "TeethForCoinsModel" "keptMore" "[I" ∈ TB := tb_t (tl_3 184 rfl) rfl
theorem dX9_init_196 : decode cX9_init 196 = .ok (.aload_n 0, 1) := by decide +kernel
theorem dX9_init_197 : decode cX9_init 197 = .ok (.sipush 1936, 3) := by decide +kernel
theorem dX9_init_200 : decode cX9_init 200 = .ok (.newarray .int, 2) := by decide +kernel
theorem dX9_init_202 : decode cX9_init 202 = .ok (.putfield 87, 3) := by decide +kernel
theorem flI_X9_87 : Cond.fieldLink RX9 87 "TeethForCoinsModel" "keptBook" "[I" ∈ TB := tb_t (tl_3 185 rfl) rfl
theorem dX9_init_205 : decode cX9_init 205 = .ok (.aload_n 0, 1) := by decide +kernel
theorem dX9_init_206 : decode cX9_init 206 = .ok (.bipush 64, 2) := by decide +kernel
theorem dX9_init_208 : decode cX9_init 208 = .ok (.newarray .int, 2) := by decide +kernel
theorem dX9_init_210 : decode cX9_init 210 = .ok (.putfield 90, 3) := by decide +kernel
theorem flI_X9_90 : Cond.fieldLink RX9 90 "TeethForCoinsModel" "keptRates" "[I" ∈ TB := tb_t (tl_3 186 rfl) rfl
theorem dX9_init_213 : decode cX9_init 213 = .ok (.aload_n 0, 1) := by decide +kernel
theorem dX9_init_214 : decode cX9_init 214 = .ok (.iconst 2, 1) := by decide +kernel
theorem dX9_init_215 : decode cX9_init 215 = .ok (.newarray .boolean, 2) := by decide +kernel
theorem dX9_init_217 : decode cX9_init 217 = .ok (.putfield 93, 3) := by decide +kernel
theorem flI_X9_93 : Cond.fieldLink RX9 93 "TeethForCoinsModel" "isKept" "[Z" ∈ TB := tb_t (tl_3 187 rfl) rfl
theorem dX9_init_220 : decode cX9_init 220 = .ok (.aload_n 0, 1) := by decide +kernel
theorem dX9_init_221 : decode cX9_init 221 = .ok (.iconst 2, 1) := by decide +kernel
theorem dX9_init_222 : decode cX9_init 222 = .ok (.newarray .int, 2) := by decide +kernel
theorem dX9_init_224 : decode cX9_init 224 = .ok (.putfield 96, 3) := by decide +kernel
theorem flI_X9_96 : Cond.fieldLink RX9 96 "TeethForCoinsModel" "keptBargains" "[I" ∈ TB := tb_t (tl_3 188 rfl) rfl
theorem dX9_init_227 : decode cX9_init 227 = .ok (.aload_n 0, 1) := by decide +kernel
theorem dX9_init_228 : decode cX9_init 228 = .ok (.iconst 4, 1) := by decide +kernel
theorem dX9_init_229 : decode cX9_init 229 = .ok (.newarray .int, 2) := by decide +kernel
theorem dX9_init_231 : decode cX9_init 231 = .ok (.putfield 99, 3) := by decide +kernel
theorem flI_X9_99 : Cond.fieldLink RX9 99 "TeethForCoinsModel" "ring" "[I" ∈ TB := tb_t (tl_3 192 rfl) rfl
theorem dX9_init_234 : decode cX9_init 234 = .ok (.aload_n 0, 1) := by decide +kernel
theorem dX9_init_235 : decode cX9_init 235 = .ok (.iconst 4, 1) := by decide +kernel
theorem dX9_init_236 : decode cX9_init 236 = .ok (.newarray .int, 2) := by decide +kernel
theorem dX9_init_238 : decode cX9_init 238 = .ok (.putfield 102, 3) := by decide +kernel
theorem flI_X9_102 : Cond.fieldLink RX9 102 "TeethForCoinsModel" "tried" "[I" ∈ TB := tb_t (tl_3 193 rfl) rfl
theorem dX9_init_241 : decode cX9_init 241 = .ok (.aload_n 0, 1) := by decide +kernel
theorem dX9_init_242 : decode cX9_init 242 = .ok (.sipush 1000, 3) := by decide +kernel
theorem dX9_init_245 : decode cX9_init 245 = .ok (.newarray .boolean, 2) := by decide +kernel
theorem dX9_init_247 : decode cX9_init 247 = .ok (.putfield 105, 3) := by decide +kernel
theorem flI_X9_105 : Cond.fieldLink RX9 105 "TeethForCoinsModel" "can" "[Z" ∈ TB := tb_t (tl_3 197 rfl) rfl
theorem dX9_init_250 : decode cX9_init 250 = .ok (.iconst 0, 1) := by decide +kernel
theorem dX9_init_251 : decode cX9_init 251 = .ok (.istore_n 1, 1) := by decide +kernel
theorem dX9_init_252 : decode cX9_init 252 = .ok (.iload_n 1, 1) := by decide +kernel
theorem dX9_init_253 : decode cX9_init 253 = .ok (.bipush 16, 2) := by decide +kernel
theorem dX9_init_255 : decode cX9_init 255 = .ok (.if_icmp .ge 23, 3) := by decide +kernel
theorem dX9_init_258 : decode cX9_init 258 = .ok (.aload_n 0, 1) := by decide +kernel
theorem dX9_init_259 : decode cX9_init 259 = .ok (.getfield 75, 3) := by decide +kernel
theorem dX9_init_262 : decode cX9_init 262 = .ok (.iload_n 1, 1) := by decide +kernel
theorem dX9_init_263 : decode cX9_init 263 = .ok (.iconst 1, 1) := by decide +kernel
theorem dX9_init_264 : decode cX9_init 264 = .ok (.iastore, 1) := by decide +kernel
theorem dX9_init_265 : decode cX9_init 265 = .ok (.aload_n 0, 1) := by decide +kernel
theorem dX9_init_266 : decode cX9_init 266 = .ok (.getfield 78, 3) := by decide +kernel
theorem dX9_init_269 : decode cX9_init 269 = .ok (.iload_n 1, 1) := by decide +kernel
theorem dX9_init_270 : decode cX9_init 270 = .ok (.iconst 1, 1) := by decide +kernel
theorem dX9_init_271 : decode cX9_init 271 = .ok (.iastore, 1) := by decide +kernel
theorem dX9_init_272 : decode cX9_init 272 = .ok (.iinc 1 1, 3) := by decide +kernel
theorem dX9_init_275 : decode cX9_init 275 = .ok (.goto (-23), 3) := by decide +kernel
theorem dX9_init_278 : decode cX9_init 278 = .ok (.return_, 1) := by decide +kernel
theorem dL_law_0 : decode cL_law 0 = .ok (.new 7, 3) := by decide +kernel
theorem clI_L_7 : Cond.classLink RL 7 "TeethForCoins" ∈ TB := tb_t (tl_1 15 rfl) rfl
theorem dL_law_3 : decode cL_law 3 = .ok (.dup, 1) := by decide +kernel
theorem dL_law_4 : decode cL_law 4 = .ok (.invokespecial 9, 3) := by decide +kernel
theorem mlI_L_9 : ML RL 9 yX8_init := Or.inl (tb_t (tl_1 17 rfl) rfl)
theorem dL_law_7 : decode cL_law 7 = .ok (.astore_n 1, 1) := by decide +kernel
theorem dL_law_8 : decode cL_law 8 = .ok (.new 10, 3) := by decide +kernel
theorem clI_L_10 : Cond.classLink RL 10 "TeethForCoinsModel" ∈ TB := tb_t (tl_3 144 rfl) rfl
theorem dL_law_11 : decode cL_law 11 = .ok (.dup, 1) := by decide +kernel
theorem dL_law_12 : decode cL_law 12 = .ok (.invokespecial 12, 3) := by decide +kernel
theorem mlI_L_12 : ML RL 12 yX9_init := Or.inl (tb_t (tl_3 146 rfl) rfl)
theorem dL_law_15 : decode cL_law 15 = .ok (.astore_n 2, 1) := by decide +kernel
theorem dL_law_16 : decode cL_law 16 = .ok (.iconst 0, 1) := by decide +kernel
theorem dL_law_17 : decode cL_law 17 = .ok (.istore_n 3, 1) := by decide +kernel
