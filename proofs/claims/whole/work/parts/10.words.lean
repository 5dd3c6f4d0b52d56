/-! ===== printed by program: method records, links ===== -/
theorem w1_1 : (Jvm.Cond.initialized "TeethForCoins") ∈ TB := tb_t (tl_1 1 rfl) rfl
theorem w1_2 : (Jvm.Cond.initialized "TeethForCoins$Text") ∈ TB := tb_t (tl_1 2 rfl) rfl
theorem w1_3 : (Jvm.Cond.initialized "TeethForCoins$Teeth") ∈ TB := tb_t (tl_1 3 rfl) rfl
theorem w1_4 : (Jvm.Cond.initialized "TeethForCoins$Goods") ∈ TB := tb_t (tl_1 4 rfl) rfl
theorem w1_5 : (Jvm.Cond.initialized "TeethForCoins$Bargains") ∈ TB := tb_t (tl_1 5 rfl) rfl
theorem w1_6 : (Jvm.Cond.initialized "TeethForCoins$Rates") ∈ TB := tb_t (tl_1 6 rfl) rfl
theorem w1_7 : (Jvm.Cond.initialized "java/util/Arrays") ∈ TB := tb_t (tl_1 7 rfl) rfl
theorem w1_8 : (Jvm.Cond.initialized "TeethForCoins$Least") ∈ TB := tb_t (tl_1 8 rfl) rfl
theorem w1_9 : (Jvm.Cond.initialized "TeethForCoins$Ring") ∈ TB := tb_t (tl_1 9 rfl) rfl
theorem w1_10 : (Jvm.Cond.initialized "TeethForCoins$Slot") ∈ TB := tb_t (tl_1 10 rfl) rfl
theorem w1_11 : (Jvm.Cond.initialized "TeethForCoinsModel") ∈ TB := tb_t (tl_1 11 rfl) rfl
theorem w1_12 : (Jvm.Cond.initialized "java/lang/Math") ∈ TB := tb_t (tl_1 12 rfl) rfl
theorem w1_13 : (Jvm.Cond.initialized "java/lang/Integer") ∈ TB := tb_t (tl_1 13 rfl) rfl
theorem w1_14 : (Jvm.Cond.initialized "java/lang/System") ∈ TB := tb_t (tl_1 14 rfl) rfl
theorem w1_29 : (Jvm.Cond.fieldLink "TeethForCoins$Text" (9 : Nat) "TeethForCoins$Text" "bytes" "[B") ∈ TB := tb_t (tl_1 29 rfl) rfl
theorem w1_30 : (Jvm.Cond.fieldLink "TeethForCoins$Text" (15 : Nat) "TeethForCoins$Text" "length" "I") ∈ TB := tb_t (tl_1 30 rfl) rfl
theorem w1_32 : (Jvm.Cond.laysFinal "TeethForCoins$Text" "TeethForCoins$Text" "bytes" "[B") ∈ TB := tb_t (tl_1 32 rfl) rfl
theorem w1_34 : (Jvm.Cond.lays "TeethForCoins$Text" "TeethForCoins$Text" "length" "I") ∈ TB := tb_t (tl_1 34 rfl) rfl
theorem w1_44 : (Jvm.Cond.fieldLink "TeethForCoins$Teeth" (11 : Nat) "TeethForCoins$Teeth" "cells" "[I") ∈ TB := tb_t (tl_1 44 rfl) rfl
theorem w1_45 : (Jvm.Cond.fieldLink "TeethForCoins$Teeth" (15 : Nat) "TeethForCoins$Teeth" "count" "I") ∈ TB := tb_t (tl_1 45 rfl) rfl
theorem w1_47 : (Jvm.Cond.laysFinal "TeethForCoins$Teeth" "TeethForCoins$Teeth" "cells" "[I") ∈ TB := tb_t (tl_1 47 rfl) rfl
theorem w1_49 : (Jvm.Cond.lays "TeethForCoins$Teeth" "TeethForCoins$Teeth" "count" "I") ∈ TB := tb_t (tl_1 49 rfl) rfl
theorem w1_59 : (Jvm.Cond.fieldLink "TeethForCoins$Goods" (9 : Nat) "TeethForCoins$Goods" "prices" "[I") ∈ TB := tb_t (tl_1 59 rfl) rfl
theorem w1_60 : (Jvm.Cond.fieldLink "TeethForCoins$Goods" (15 : Nat) "TeethForCoins$Goods" "uses" "[I") ∈ TB := tb_t (tl_1 60 rfl) rfl
theorem w1_61 : (Jvm.Cond.fieldLink "TeethForCoins$Goods" (18 : Nat) "TeethForCoins$Goods" "count" "I") ∈ TB := tb_t (tl_1 61 rfl) rfl
theorem w1_63 : (Jvm.Cond.laysFinal "TeethForCoins$Goods" "TeethForCoins$Goods" "prices" "[I") ∈ TB := tb_t (tl_1 63 rfl) rfl
theorem w1_65 : (Jvm.Cond.laysFinal "TeethForCoins$Goods" "TeethForCoins$Goods" "uses" "[I") ∈ TB := tb_t (tl_1 65 rfl) rfl
theorem w1_67 : (Jvm.Cond.lays "TeethForCoins$Goods" "TeethForCoins$Goods" "count" "I") ∈ TB := tb_t (tl_1 67 rfl) rfl
theorem w1_79 : (Jvm.Cond.fieldLink "TeethForCoins$Bargains" (11 : Nat) "TeethForCoins$Bargains" "ahead" "[LTeethForCoins$Teeth;") ∈ TB := tb_t (tl_1 79 rfl) rfl
theorem w1_80 : (Jvm.Cond.fieldLink "TeethForCoins$Bargains" (17 : Nat) "TeethForCoins$Bargains" "made" "I") ∈ TB := tb_t (tl_1 80 rfl) rfl
theorem w1_82 : (Jvm.Cond.laysFinal "TeethForCoins$Bargains" "TeethForCoins$Bargains" "ahead" "[LTeethForCoins$Teeth;") ∈ TB := tb_t (tl_1 82 rfl) rfl
theorem w1_84 : (Jvm.Cond.lays "TeethForCoins$Bargains" "TeethForCoins$Bargains" "made" "I") ∈ TB := tb_t (tl_1 84 rfl) rfl
theorem w1_93 : (Jvm.Cond.methodLink "TeethForCoins$Rates" (18 : Nat) ({ cls := "java/util/Arrays", name := "fill", desc := "([II)V" } : Jvm.MethodName)) ∈ TB := tb_t (tl_1 93 rfl) rfl
theorem w1_94 : (Jvm.Cond.static ({ cls := "java/util/Arrays", name := "fill", desc := "([II)V" } : Jvm.MethodName)) ∈ TB := tb_t (tl_1 94 rfl) rfl
theorem w1_95 : (Jvm.Cond.code ({ cls := "java/util/Arrays", name := "fill", desc := "([II)V" } : Jvm.MethodName) prog_15_method_103_code (4 : Nat) (Option.none : Option Jvm.ClassFile.FieldType)) ∈ TB := tb_t (tl_1 95 rfl) rfl
theorem w1_96 : (Jvm.Cond.fieldLink "TeethForCoins$Rates" (9 : Nat) "TeethForCoins$Rates" "got" "[I") ∈ TB := tb_t (tl_1 96 rfl) rfl
theorem w1_97 : (Jvm.Cond.fieldLink "TeethForCoins$Rates" (15 : Nat) "TeethForCoins$Rates" "given" "[I") ∈ TB := tb_t (tl_1 97 rfl) rfl
theorem w1_98 : (Jvm.Cond.laysFinal "TeethForCoins$Rates" "TeethForCoins$Rates" "got" "[I") ∈ TB := tb_t (tl_1 98 rfl) rfl
theorem w1_100 : (Jvm.Cond.laysFinal "TeethForCoins$Rates" "TeethForCoins$Rates" "given" "[I") ∈ TB := tb_t (tl_1 100 rfl) rfl
theorem w1_111 : (Jvm.Cond.fieldLink "TeethForCoins$Least" (7 : Nat) "TeethForCoins$Least" "found" "Z") ∈ TB := tb_t (tl_1 111 rfl) rfl
theorem w1_113 : (Jvm.Cond.fieldLink "TeethForCoins$Least" (13 : Nat) "TeethForCoins$Least" "first" "I") ∈ TB := tb_t (tl_1 113 rfl) rfl
theorem w1_115 : (Jvm.Cond.fieldLink "TeethForCoins$Least" (17 : Nat) "TeethForCoins$Least" "second" "I") ∈ TB := tb_t (tl_1 115 rfl) rfl
theorem w1_117 : (Jvm.Cond.fieldLink "TeethForCoins$Least" (20 : Nat) "TeethForCoins$Least" "third" "I") ∈ TB := tb_t (tl_1 117 rfl) rfl
theorem w1_119 : (Jvm.Cond.lays "TeethForCoins$Least" "TeethForCoins$Least" "found" "Z") ∈ TB := tb_t (tl_1 119 rfl) rfl
theorem w1_121 : (Jvm.Cond.lays "TeethForCoins$Least" "TeethForCoins$Least" "first" "I") ∈ TB := tb_t (tl_1 121 rfl) rfl
theorem w1_123 : (Jvm.Cond.lays "TeethForCoins$Least" "TeethForCoins$Least" "second" "I") ∈ TB := tb_t (tl_1 123 rfl) rfl
theorem w1_125 : (Jvm.Cond.lays "TeethForCoins$Least" "TeethForCoins$Least" "third" "I") ∈ TB := tb_t (tl_1 125 rfl) rfl
theorem w1_134 : (Jvm.Cond.fieldLink "TeethForCoins$Ring" (7 : Nat) "TeethForCoins$Ring" "code" "I") ∈ TB := tb_t (tl_1 134 rfl) rfl
theorem w1_136 : (Jvm.Cond.fieldLink "TeethForCoins$Ring" (13 : Nat) "TeethForCoins$Ring" "many" "I") ∈ TB := tb_t (tl_1 136 rfl) rfl
theorem w1_138 : (Jvm.Cond.fieldLink "TeethForCoins$Ring" (16 : Nat) "TeethForCoins$Ring" "got" "J") ∈ TB := tb_t (tl_1 138 rfl) rfl
theorem w1_140 : (Jvm.Cond.fieldLink "TeethForCoins$Ring" (20 : Nat) "TeethForCoins$Ring" "given" "J") ∈ TB := tb_t (tl_1 140 rfl) rfl
theorem w1_142 : (Jvm.Cond.lays "TeethForCoins$Ring" "TeethForCoins$Ring" "code" "I") ∈ TB := tb_t (tl_1 142 rfl) rfl
theorem w1_144 : (Jvm.Cond.lays "TeethForCoins$Ring" "TeethForCoins$Ring" "many" "I") ∈ TB := tb_t (tl_1 144 rfl) rfl
theorem w1_146 : (Jvm.Cond.lays "TeethForCoins$Ring" "TeethForCoins$Ring" "got" "J") ∈ TB := tb_t (tl_1 146 rfl) rfl
theorem w1_148 : (Jvm.Cond.lays "TeethForCoins$Ring" "TeethForCoins$Ring" "given" "J") ∈ TB := tb_t (tl_1 148 rfl) rfl
theorem w1_162 : (Jvm.Cond.fieldLink "TeethForCoins$Slot" (10 : Nat) "TeethForCoins$Slot" "teeth" "LTeethForCoins$Teeth;") ∈ TB := tb_t (tl_1 162 rfl) rfl
theorem w1_163 : (Jvm.Cond.fieldLink "TeethForCoins$Slot" (19 : Nat) "TeethForCoins$Slot" "bargains" "LTeethForCoins$Bargains;") ∈ TB := tb_t (tl_1 163 rfl) rfl
theorem w1_164 : (Jvm.Cond.fieldLink "TeethForCoins$Slot" (26 : Nat) "TeethForCoins$Slot" "rates" "LTeethForCoins$Rates;") ∈ TB := tb_t (tl_1 164 rfl) rfl
theorem w1_165 : (Jvm.Cond.fieldLink "TeethForCoins$Slot" (30 : Nat) "TeethForCoins$Slot" "full" "Z") ∈ TB := tb_t (tl_1 165 rfl) rfl
theorem w1_167 : (Jvm.Cond.laysFinal "TeethForCoins$Slot" "TeethForCoins$Slot" "teeth" "LTeethForCoins$Teeth;") ∈ TB := tb_t (tl_1 167 rfl) rfl
theorem w1_169 : (Jvm.Cond.laysFinal "TeethForCoins$Slot" "TeethForCoins$Slot" "bargains" "LTeethForCoins$Bargains;") ∈ TB := tb_t (tl_1 169 rfl) rfl
theorem w1_171 : (Jvm.Cond.laysFinal "TeethForCoins$Slot" "TeethForCoins$Slot" "rates" "LTeethForCoins$Rates;") ∈ TB := tb_t (tl_1 171 rfl) rfl
theorem w1_173 : (Jvm.Cond.lays "TeethForCoins$Slot" "TeethForCoins$Slot" "full" "Z") ∈ TB := tb_t (tl_1 173 rfl) rfl
theorem w1_176 : (Jvm.Cond.fieldLink "TeethForCoins" (10 : Nat) "TeethForCoins" "text" "LTeethForCoins$Text;") ∈ TB := tb_t (tl_1 176 rfl) rfl
theorem w1_177 : (Jvm.Cond.fieldLink "TeethForCoins" (19 : Nat) "TeethForCoins" "teeth" "LTeethForCoins$Teeth;") ∈ TB := tb_t (tl_1 177 rfl) rfl
theorem w1_178 : (Jvm.Cond.fieldLink "TeethForCoins" (26 : Nat) "TeethForCoins" "goods" "LTeethForCoins$Goods;") ∈ TB := tb_t (tl_1 178 rfl) rfl
theorem w1_179 : (Jvm.Cond.fieldLink "TeethForCoins" (33 : Nat) "TeethForCoins" "bargains" "LTeethForCoins$Bargains;") ∈ TB := tb_t (tl_1 179 rfl) rfl
theorem w1_180 : (Jvm.Cond.fieldLink "TeethForCoins" (40 : Nat) "TeethForCoins" "rates" "LTeethForCoins$Rates;") ∈ TB := tb_t (tl_1 180 rfl) rfl
theorem w1_181 : (Jvm.Cond.fieldLink "TeethForCoins" (46 : Nat) "TeethForCoins" "slots" "[LTeethForCoins$Slot;") ∈ TB := tb_t (tl_1 181 rfl) rfl
theorem w1_182 : (Jvm.Cond.fieldLink "TeethForCoins" (50 : Nat) "TeethForCoins" "lossByWear" "I") ∈ TB := tb_t (tl_1 182 rfl) rfl
theorem w1_183 : (Jvm.Cond.fieldLink "TeethForCoins" (54 : Nat) "TeethForCoins" "timesOfLeft" "I") ∈ TB := tb_t (tl_1 183 rfl) rfl
theorem w1_184 : (Jvm.Cond.fieldLink "TeethForCoins" (60 : Nat) "TeethForCoins" "least" "LTeethForCoins$Least;") ∈ TB := tb_t (tl_1 184 rfl) rfl
theorem w1_185 : (Jvm.Cond.fieldLink "TeethForCoins" (67 : Nat) "TeethForCoins" "best" "LTeethForCoins$Ring;") ∈ TB := tb_t (tl_1 185 rfl) rfl
theorem w1_186 : (Jvm.Cond.fieldLink "TeethForCoins" (71 : Nat) "TeethForCoins" "balances" "[I") ∈ TB := tb_t (tl_1 186 rfl) rfl
theorem w1_187 : (Jvm.Cond.fieldLink "TeethForCoins" (75 : Nat) "TeethForCoins" "payable" "[I") ∈ TB := tb_t (tl_1 187 rfl) rfl
theorem w1_188 : (Jvm.Cond.laysFinal "TeethForCoins" "TeethForCoins" "text" "LTeethForCoins$Text;") ∈ TB := tb_t (tl_1 188 rfl) rfl
theorem w1_190 : (Jvm.Cond.laysFinal "TeethForCoins" "TeethForCoins" "teeth" "LTeethForCoins$Teeth;") ∈ TB := tb_t (tl_1 190 rfl) rfl
theorem w1_192 : (Jvm.Cond.laysFinal "TeethForCoins" "TeethForCoins" "goods" "LTeethForCoins$Goods;") ∈ TB := tb_t (tl_1 192 rfl) rfl
theorem w1_194 : (Jvm.Cond.laysFinal "TeethForCoins" "TeethForCoins" "bargains" "LTeethForCoins$Bargains;") ∈ TB := tb_t (tl_1 194 rfl) rfl
theorem w1_196 : (Jvm.Cond.laysFinal "TeethForCoins" "TeethForCoins" "rates" "LTeethForCoins$Rates;") ∈ TB := tb_t (tl_1 196 rfl) rfl
theorem w1_198 : (Jvm.Cond.laysFinal "TeethForCoins" "TeethForCoins" "slots" "[LTeethForCoins$Slot;") ∈ TB := tb_t (tl_1 198 rfl) rfl
theorem w1_200 : (Jvm.Cond.lays "TeethForCoins" "TeethForCoins" "lossByWear" "I") ∈ TB := tb_t (tl_1 200 rfl) rfl
theorem w1_202 : (Jvm.Cond.lays "TeethForCoins" "TeethForCoins" "timesOfLeft" "I") ∈ TB := tb_t (tl_1 202 rfl) rfl
theorem w1_204 : (Jvm.Cond.laysFinal "TeethForCoins" "TeethForCoins" "least" "LTeethForCoins$Least;") ∈ TB := tb_t (tl_1 204 rfl) rfl
theorem w1_206 : (Jvm.Cond.laysFinal "TeethForCoins" "TeethForCoins" "best" "LTeethForCoins$Ring;") ∈ TB := tb_t (tl_1 206 rfl) rfl
theorem w1_208 : (Jvm.Cond.laysFinal "TeethForCoins" "TeethForCoins" "balances" "[I") ∈ TB := tb_t (tl_1 208 rfl) rfl
theorem w1_210 : (Jvm.Cond.laysFinal "TeethForCoins" "TeethForCoins" "payable" "[I") ∈ TB := tb_t (tl_1 210 rfl) rfl
theorem w1_213 : (Jvm.Cond.methodLink "TeethForCoinsLaw" (15 : Nat) ({ cls := "TeethForCoins", name := "write", desc := "(IJ)I" } : Jvm.MethodName)) ∈ TB := tb_t (tl_1 213 rfl) rfl
theorem w1_214 : (Jvm.Cond.instanceMethod ({ cls := "TeethForCoins", name := "write", desc := "(IJ)I" } : Jvm.MethodName)) ∈ TB := tb_t (tl_1 214 rfl) rfl
theorem w1_215 : (Jvm.Cond.selects "TeethForCoins" ({ cls := "TeethForCoins", name := "write", desc := "(IJ)I" } : Jvm.MethodName) ({ cls := "TeethForCoins", name := "write", desc := "(IJ)I" } : Jvm.MethodName)) ∈ TB := tb_t (tl_1 215 rfl) rfl
theorem w1_216 : (Jvm.Cond.code ({ cls := "TeethForCoins", name := "write", desc := "(IJ)I" } : Jvm.MethodName) prog_1_method_2_code (5 : Nat) (Option.some Jvm.ClassFile.FieldType.int)) ∈ TB := tb_t (tl_1 216 rfl) rfl
theorem w1_219 : (Jvm.Cond.instanceMethod ({ cls := "TeethForCoins$Text", name := "append", desc := "(B)V" } : Jvm.MethodName)) ∈ TB := tb_t (tl_1 219 rfl) rfl
theorem w1_220 : (Jvm.Cond.code ({ cls := "TeethForCoins$Text", name := "append", desc := "(B)V" } : Jvm.MethodName) prog_9_method_2_code (2 : Nat) (Option.none : Option Jvm.ClassFile.FieldType)) ∈ TB := tb_t (tl_1 220 rfl) rfl
theorem w1_221 : (Jvm.Cond.methodLink "TeethForCoinsLaw" (20 : Nat) ({ cls := "TeethForCoins", name := "wipe", desc := "()I" } : Jvm.MethodName)) ∈ TB := tb_t (tl_1 221 rfl) rfl
theorem w1_222 : (Jvm.Cond.instanceMethod ({ cls := "TeethForCoins", name := "wipe", desc := "()I" } : Jvm.MethodName)) ∈ TB := tb_t (tl_1 222 rfl) rfl
theorem w1_223 : (Jvm.Cond.selects "TeethForCoins" ({ cls := "TeethForCoins", name := "wipe", desc := "()I" } : Jvm.MethodName) ({ cls := "TeethForCoins", name := "wipe", desc := "()I" } : Jvm.MethodName)) ∈ TB := tb_t (tl_1 223 rfl) rfl
theorem w1_224 : (Jvm.Cond.code ({ cls := "TeethForCoins", name := "wipe", desc := "()I" } : Jvm.MethodName) prog_1_method_3_code (2 : Nat) (Option.some Jvm.ClassFile.FieldType.int)) ∈ TB := tb_t (tl_1 224 rfl) rfl
theorem w1_225 : (Jvm.Cond.methodLink "TeethForCoinsLaw" (25 : Nat) ({ cls := "TeethForCoins", name := "fault", desc := "()I" } : Jvm.MethodName)) ∈ TB := tb_t (tl_1 225 rfl) rfl
theorem w1_226 : (Jvm.Cond.instanceMethod ({ cls := "TeethForCoins", name := "fault", desc := "()I" } : Jvm.MethodName)) ∈ TB := tb_t (tl_1 226 rfl) rfl
theorem w1_227 : (Jvm.Cond.selects "TeethForCoins" ({ cls := "TeethForCoins", name := "fault", desc := "()I" } : Jvm.MethodName) ({ cls := "TeethForCoins", name := "fault", desc := "()I" } : Jvm.MethodName)) ∈ TB := tb_t (tl_1 227 rfl) rfl
theorem w1_228 : (Jvm.Cond.code ({ cls := "TeethForCoins", name := "fault", desc := "()I" } : Jvm.MethodName) prog_1_method_4_code (1 : Nat) (Option.some Jvm.ClassFile.FieldType.int)) ∈ TB := tb_t (tl_1 228 rfl) rfl
theorem w1_231 : (Jvm.Cond.instanceMethod ({ cls := "TeethForCoins$Text", name := "faultPlace", desc := "()I" } : Jvm.MethodName)) ∈ TB := tb_t (tl_1 231 rfl) rfl
theorem w1_232 : (Jvm.Cond.code ({ cls := "TeethForCoins$Text", name := "faultPlace", desc := "()I" } : Jvm.MethodName) prog_9_method_7_code (7 : Nat) (Option.some Jvm.ClassFile.FieldType.int)) ∈ TB := tb_t (tl_1 232 rfl) rfl
theorem w1_233 : (Jvm.Cond.methodLink "TeethForCoins$Text" (19 : Nat) ({ cls := "TeethForCoins$Text", name := "byteAt", desc := "(I)I" } : Jvm.MethodName)) ∈ TB := tb_t (tl_1 233 rfl) rfl
theorem w1_235 : (Jvm.Cond.instanceMethod ({ cls := "TeethForCoins$Text", name := "byteAt", desc := "(I)I" } : Jvm.MethodName)) ∈ TB := tb_t (tl_1 235 rfl) rfl
theorem w1_236 : (Jvm.Cond.code ({ cls := "TeethForCoins$Text", name := "byteAt", desc := "(I)I" } : Jvm.MethodName) prog_9_method_3_code (2 : Nat) (Option.some Jvm.ClassFile.FieldType.int)) ∈ TB := tb_t (tl_1 236 rfl) rfl
theorem w1_237 : (Jvm.Cond.methodLink "TeethForCoins$Text" (23 : Nat) ({ cls := "TeethForCoins$Text", name := "mayFollow", desc := "(III)Z" } : Jvm.MethodName)) ∈ TB := tb_t (tl_1 237 rfl) rfl
theorem w1_239 : (Jvm.Cond.instanceMethod ({ cls := "TeethForCoins$Text", name := "mayFollow", desc := "(III)Z" } : Jvm.MethodName)) ∈ TB := tb_t (tl_1 239 rfl) rfl
theorem w2_0 : (Jvm.Cond.code ({ cls := "TeethForCoins$Text", name := "mayFollow", desc := "(III)Z" } : Jvm.MethodName) prog_9_method_9_code (8 : Nat) (Option.some Jvm.ClassFile.FieldType.boolean)) ∈ TB := tb_t (tl_2 0 rfl) rfl
theorem w2_1 : (Jvm.Cond.methodLink "TeethForCoins$Text" (37 : Nat) ({ cls := "TeethForCoins$Text", name := "figureAt", desc := "(I)I" } : Jvm.MethodName)) ∈ TB := tb_t (tl_2 1 rfl) rfl
theorem w2_3 : (Jvm.Cond.instanceMethod ({ cls := "TeethForCoins$Text", name := "figureAt", desc := "(I)I" } : Jvm.MethodName)) ∈ TB := tb_t (tl_2 3 rfl) rfl
theorem w2_4 : (Jvm.Cond.code ({ cls := "TeethForCoins$Text", name := "figureAt", desc := "(I)I" } : Jvm.MethodName) prog_9_method_4_code (2 : Nat) (Option.some Jvm.ClassFile.FieldType.int)) ∈ TB := tb_t (tl_2 4 rfl) rfl
theorem w2_5 : (Jvm.Cond.methodLink "TeethForCoins$Text" (30 : Nat) ({ cls := "TeethForCoins$Text", name := "tellsTooth", desc := "(I)Z" } : Jvm.MethodName)) ∈ TB := tb_t (tl_2 5 rfl) rfl
theorem w2_6 : (Jvm.Cond.static ({ cls := "TeethForCoins$Text", name := "tellsTooth", desc := "(I)Z" } : Jvm.MethodName)) ∈ TB := tb_t (tl_2 6 rfl) rfl
theorem w2_7 : (Jvm.Cond.code ({ cls := "TeethForCoins$Text", name := "tellsTooth", desc := "(I)Z" } : Jvm.MethodName) prog_9_method_5_code (1 : Nat) (Option.some Jvm.ClassFile.FieldType.boolean)) ∈ TB := tb_t (tl_2 7 rfl) rfl
theorem w2_8 : (Jvm.Cond.methodLink "TeethForCoins$Text" (27 : Nat) ({ cls := "TeethForCoins$Text", name := "mayBegin", desc := "(III)Z" } : Jvm.MethodName)) ∈ TB := tb_t (tl_2 8 rfl) rfl
theorem w2_9 : (Jvm.Cond.static ({ cls := "TeethForCoins$Text", name := "mayBegin", desc := "(III)Z" } : Jvm.MethodName)) ∈ TB := tb_t (tl_2 9 rfl) rfl
theorem w2_10 : (Jvm.Cond.code ({ cls := "TeethForCoins$Text", name := "mayBegin", desc := "(III)Z" } : Jvm.MethodName) prog_9_method_8_code (3 : Nat) (Option.some Jvm.ClassFile.FieldType.boolean)) ∈ TB := tb_t (tl_2 10 rfl) rfl
theorem w2_11 : (Jvm.Cond.methodLink "TeethForCoins$Text" (34 : Nat) ({ cls := "TeethForCoins$Text", name := "partLength", desc := "(I)I" } : Jvm.MethodName)) ∈ TB := tb_t (tl_2 11 rfl) rfl
theorem w2_12 : (Jvm.Cond.static ({ cls := "TeethForCoins$Text", name := "partLength", desc := "(I)I" } : Jvm.MethodName)) ∈ TB := tb_t (tl_2 12 rfl) rfl
theorem w2_13 : (Jvm.Cond.code ({ cls := "TeethForCoins$Text", name := "partLength", desc := "(I)I" } : Jvm.MethodName) prog_9_method_6_code (1 : Nat) (Option.some Jvm.ClassFile.FieldType.int)) ∈ TB := tb_t (tl_2 13 rfl) rfl
theorem w2_14 : (Jvm.Cond.methodLink "TeethForCoinsLaw" (29 : Nat) ({ cls := "TeethForCoins", name := "market", desc := "()I" } : Jvm.MethodName)) ∈ TB := tb_t (tl_2 14 rfl) rfl
theorem w2_15 : (Jvm.Cond.instanceMethod ({ cls := "TeethForCoins", name := "market", desc := "()I" } : Jvm.MethodName)) ∈ TB := tb_t (tl_2 15 rfl) rfl
theorem w2_16 : (Jvm.Cond.selects "TeethForCoins" ({ cls := "TeethForCoins", name := "market", desc := "()I" } : Jvm.MethodName) ({ cls := "TeethForCoins", name := "market", desc := "()I" } : Jvm.MethodName)) ∈ TB := tb_t (tl_2 16 rfl) rfl
theorem w2_17 : (Jvm.Cond.code ({ cls := "TeethForCoins", name := "market", desc := "()I" } : Jvm.MethodName) prog_1_method_5_code (2 : Nat) (Option.some Jvm.ClassFile.FieldType.int)) ∈ TB := tb_t (tl_2 17 rfl) rfl
theorem w2_19 : (Jvm.Cond.methodLink "TeethForCoins" (101 : Nat) ({ cls := "TeethForCoins", name := "readPart", desc := "(I)V" } : Jvm.MethodName)) ∈ TB := tb_t (tl_2 19 rfl) rfl
theorem w2_21 : (Jvm.Cond.instanceMethod ({ cls := "TeethForCoins", name := "readPart", desc := "(I)V" } : Jvm.MethodName)) ∈ TB := tb_t (tl_2 21 rfl) rfl
theorem w2_22 : (Jvm.Cond.code ({ cls := "TeethForCoins", name := "readPart", desc := "(I)V" } : Jvm.MethodName) prog_1_method_42_code (4 : Nat) (Option.none : Option Jvm.ClassFile.FieldType)) ∈ TB := tb_t (tl_2 22 rfl) rfl
theorem w2_27 : (Jvm.Cond.instanceMethod ({ cls := "TeethForCoins$Teeth", name := "add", desc := "(IZI)I" } : Jvm.MethodName)) ∈ TB := tb_t (tl_2 27 rfl) rfl
theorem w2_28 : (Jvm.Cond.code ({ cls := "TeethForCoins$Teeth", name := "add", desc := "(IZI)I" } : Jvm.MethodName) prog_8_method_4_code (5 : Nat) (Option.some Jvm.ClassFile.FieldType.int)) ∈ TB := tb_t (tl_2 28 rfl) rfl
theorem w2_29 : (Jvm.Cond.methodLink "TeethForCoins$Teeth" (19 : Nat) ({ cls := "TeethForCoins$Teeth", name := "set", desc := "(III)V" } : Jvm.MethodName)) ∈ TB := tb_t (tl_2 29 rfl) rfl
theorem w2_31 : (Jvm.Cond.instanceMethod ({ cls := "TeethForCoins$Teeth", name := "set", desc := "(III)V" } : Jvm.MethodName)) ∈ TB := tb_t (tl_2 31 rfl) rfl
theorem w2_32 : (Jvm.Cond.code ({ cls := "TeethForCoins$Teeth", name := "set", desc := "(III)V" } : Jvm.MethodName) prog_8_method_3_code (5 : Nat) (Option.none : Option Jvm.ClassFile.FieldType)) ∈ TB := tb_t (tl_2 32 rfl) rfl
theorem w2_33 : (Jvm.Cond.methodLink "TeethForCoins$Teeth" (23 : Nat) ({ cls := "TeethForCoins$Teeth", name := "passTo", desc := "(II)V" } : Jvm.MethodName)) ∈ TB := tb_t (tl_2 33 rfl) rfl
theorem w2_35 : (Jvm.Cond.instanceMethod ({ cls := "TeethForCoins$Teeth", name := "passTo", desc := "(II)V" } : Jvm.MethodName)) ∈ TB := tb_t (tl_2 35 rfl) rfl
theorem w2_36 : (Jvm.Cond.code ({ cls := "TeethForCoins$Teeth", name := "passTo", desc := "(II)V" } : Jvm.MethodName) prog_8_method_5_code (4 : Nat) (Option.none : Option Jvm.ClassFile.FieldType)) ∈ TB := tb_t (tl_2 36 rfl) rfl
theorem w2_37 : (Jvm.Cond.methodLink "TeethForCoins$Teeth" (27 : Nat) ({ cls := "TeethForCoins$Teeth", name := "get", desc := "(II)I" } : Jvm.MethodName)) ∈ TB := tb_t (tl_2 37 rfl) rfl
theorem w2_39 : (Jvm.Cond.instanceMethod ({ cls := "TeethForCoins$Teeth", name := "get", desc := "(II)I" } : Jvm.MethodName)) ∈ TB := tb_t (tl_2 39 rfl) rfl
theorem w2_40 : (Jvm.Cond.code ({ cls := "TeethForCoins$Teeth", name := "get", desc := "(II)I" } : Jvm.MethodName) prog_8_method_2_code (4 : Nat) (Option.some Jvm.ClassFile.FieldType.int)) ∈ TB := tb_t (tl_2 40 rfl) rfl
theorem w2_44 : (Jvm.Cond.instanceMethod ({ cls := "TeethForCoins$Goods", name := "add", desc := "(II)V" } : Jvm.MethodName)) ∈ TB := tb_t (tl_2 44 rfl) rfl
theorem w2_45 : (Jvm.Cond.code ({ cls := "TeethForCoins$Goods", name := "add", desc := "(II)V" } : Jvm.MethodName) prog_3_method_2_code (3 : Nat) (Option.none : Option Jvm.ClassFile.FieldType)) ∈ TB := tb_t (tl_2 45 rfl) rfl
theorem w2_47 : (Jvm.Cond.methodLink "TeethForCoins" (111 : Nat) ({ cls := "java/lang/Math", name := "max", desc := "(II)I" } : Jvm.MethodName)) ∈ TB := tb_t (tl_2 47 rfl) rfl
theorem w2_48 : (Jvm.Cond.static ({ cls := "java/lang/Math", name := "max", desc := "(II)I" } : Jvm.MethodName)) ∈ TB := tb_t (tl_2 48 rfl) rfl
theorem w2_49 : (Jvm.Cond.code ({ cls := "java/lang/Math", name := "max", desc := "(II)I" } : Jvm.MethodName) prog_13_method_65_code (2 : Nat) (Option.some Jvm.ClassFile.FieldType.int)) ∈ TB := tb_t (tl_2 49 rfl) rfl
theorem w2_50 : (Jvm.Cond.methodLink "TeethForCoinsLaw" (33 : Nat) ({ cls := "TeethForCoins", name := "about", desc := "(I)I" } : Jvm.MethodName)) ∈ TB := tb_t (tl_2 50 rfl) rfl
theorem w2_51 : (Jvm.Cond.instanceMethod ({ cls := "TeethForCoins", name := "about", desc := "(I)I" } : Jvm.MethodName)) ∈ TB := tb_t (tl_2 51 rfl) rfl
theorem w2_52 : (Jvm.Cond.selects "TeethForCoins" ({ cls := "TeethForCoins", name := "about", desc := "(I)I" } : Jvm.MethodName) ({ cls := "TeethForCoins", name := "about", desc := "(I)I" } : Jvm.MethodName)) ∈ TB := tb_t (tl_2 52 rfl) rfl
theorem w2_53 : (Jvm.Cond.code ({ cls := "TeethForCoins", name := "about", desc := "(I)I" } : Jvm.MethodName) prog_1_method_6_code (2 : Nat) (Option.some Jvm.ClassFile.FieldType.int)) ∈ TB := tb_t (tl_2 53 rfl) rfl
theorem w2_56 : (Jvm.Cond.instanceMethod ({ cls := "TeethForCoins$Teeth", name := "fakes", desc := "()I" } : Jvm.MethodName)) ∈ TB := tb_t (tl_2 56 rfl) rfl
theorem w2_57 : (Jvm.Cond.code ({ cls := "TeethForCoins$Teeth", name := "fakes", desc := "()I" } : Jvm.MethodName) prog_8_method_9_code (3 : Nat) (Option.some Jvm.ClassFile.FieldType.int)) ∈ TB := tb_t (tl_2 57 rfl) rfl
theorem w2_58 : (Jvm.Cond.methodLink "TeethForCoinsLaw" (38 : Nat) ({ cls := "TeethForCoins", name := "tooth", desc := "(II)I" } : Jvm.MethodName)) ∈ TB := tb_t (tl_2 58 rfl) rfl
theorem w2_59 : (Jvm.Cond.instanceMethod ({ cls := "TeethForCoins", name := "tooth", desc := "(II)I" } : Jvm.MethodName)) ∈ TB := tb_t (tl_2 59 rfl) rfl
theorem w2_60 : (Jvm.Cond.selects "TeethForCoins" ({ cls := "TeethForCoins", name := "tooth", desc := "(II)I" } : Jvm.MethodName) ({ cls := "TeethForCoins", name := "tooth", desc := "(II)I" } : Jvm.MethodName)) ∈ TB := tb_t (tl_2 60 rfl) rfl
theorem w2_61 : (Jvm.Cond.code ({ cls := "TeethForCoins", name := "tooth", desc := "(II)I" } : Jvm.MethodName) prog_1_method_7_code (3 : Nat) (Option.some Jvm.ClassFile.FieldType.int)) ∈ TB := tb_t (tl_2 61 rfl) rfl
theorem w2_62 : (Jvm.Cond.methodLink "TeethForCoins" (120 : Nat) ({ cls := "TeethForCoins", name := "isTooth", desc := "(I)Z" } : Jvm.MethodName)) ∈ TB := tb_t (tl_2 62 rfl) rfl
theorem w2_64 : (Jvm.Cond.instanceMethod ({ cls := "TeethForCoins", name := "isTooth", desc := "(I)Z" } : Jvm.MethodName)) ∈ TB := tb_t (tl_2 64 rfl) rfl
theorem w2_65 : (Jvm.Cond.code ({ cls := "TeethForCoins", name := "isTooth", desc := "(I)Z" } : Jvm.MethodName) prog_1_method_34_code (2 : Nat) (Option.some Jvm.ClassFile.FieldType.boolean)) ∈ TB := tb_t (tl_2 65 rfl) rfl
theorem w2_67 : (Jvm.Cond.methodLink "TeethForCoins" (127 : Nat) ({ cls := "TeethForCoins", name := "worthOf", desc := "(I)I" } : Jvm.MethodName)) ∈ TB := tb_t (tl_2 67 rfl) rfl
theorem w2_69 : (Jvm.Cond.instanceMethod ({ cls := "TeethForCoins", name := "worthOf", desc := "(I)I" } : Jvm.MethodName)) ∈ TB := tb_t (tl_2 69 rfl) rfl
theorem w2_70 : (Jvm.Cond.code ({ cls := "TeethForCoins", name := "worthOf", desc := "(I)I" } : Jvm.MethodName) prog_1_method_44_code (2 : Nat) (Option.some Jvm.ClassFile.FieldType.int)) ∈ TB := tb_t (tl_2 70 rfl) rfl
theorem w2_71 : (Jvm.Cond.methodLink "TeethForCoins" (224 : Nat) ({ cls := "TeethForCoins", name := "worthWorn", desc := "(II)I" } : Jvm.MethodName)) ∈ TB := tb_t (tl_2 71 rfl) rfl
theorem w2_73 : (Jvm.Cond.instanceMethod ({ cls := "TeethForCoins", name := "worthWorn", desc := "(II)I" } : Jvm.MethodName)) ∈ TB := tb_t (tl_2 73 rfl) rfl
theorem w2_74 : (Jvm.Cond.code ({ cls := "TeethForCoins", name := "worthWorn", desc := "(II)I" } : Jvm.MethodName) prog_1_method_43_code (4 : Nat) (Option.some Jvm.ClassFile.FieldType.int)) ∈ TB := tb_t (tl_2 74 rfl) rfl
theorem w2_75 : (Jvm.Cond.methodLink "TeethForCoinsLaw" (43 : Nat) ({ cls := "TeethForCoins", name := "good", desc := "(II)I" } : Jvm.MethodName)) ∈ TB := tb_t (tl_2 75 rfl) rfl
theorem w2_76 : (Jvm.Cond.instanceMethod ({ cls := "TeethForCoins", name := "good", desc := "(II)I" } : Jvm.MethodName)) ∈ TB := tb_t (tl_2 76 rfl) rfl
theorem w2_77 : (Jvm.Cond.selects "TeethForCoins" ({ cls := "TeethForCoins", name := "good", desc := "(II)I" } : Jvm.MethodName) ({ cls := "TeethForCoins", name := "good", desc := "(II)I" } : Jvm.MethodName)) ∈ TB := tb_t (tl_2 77 rfl) rfl
theorem w2_78 : (Jvm.Cond.code ({ cls := "TeethForCoins", name := "good", desc := "(II)I" } : Jvm.MethodName) prog_1_method_8_code (3 : Nat) (Option.some Jvm.ClassFile.FieldType.int)) ∈ TB := tb_t (tl_2 78 rfl) rfl
theorem w2_79 : (Jvm.Cond.methodLink "TeethForCoins" (130 : Nat) ({ cls := "TeethForCoins", name := "isGood", desc := "(I)Z" } : Jvm.MethodName)) ∈ TB := tb_t (tl_2 79 rfl) rfl
theorem w2_81 : (Jvm.Cond.instanceMethod ({ cls := "TeethForCoins", name := "isGood", desc := "(I)Z" } : Jvm.MethodName)) ∈ TB := tb_t (tl_2 81 rfl) rfl
theorem w2_82 : (Jvm.Cond.code ({ cls := "TeethForCoins", name := "isGood", desc := "(I)Z" } : Jvm.MethodName) prog_1_method_35_code (2 : Nat) (Option.some Jvm.ClassFile.FieldType.boolean)) ∈ TB := tb_t (tl_2 82 rfl) rfl
theorem w2_85 : (Jvm.Cond.instanceMethod ({ cls := "TeethForCoins$Goods", name := "priceOf", desc := "(I)I" } : Jvm.MethodName)) ∈ TB := tb_t (tl_2 85 rfl) rfl
theorem w2_86 : (Jvm.Cond.code ({ cls := "TeethForCoins$Goods", name := "priceOf", desc := "(I)I" } : Jvm.MethodName) prog_3_method_3_code (2 : Nat) (Option.some Jvm.ClassFile.FieldType.int)) ∈ TB := tb_t (tl_2 86 rfl) rfl
theorem w2_89 : (Jvm.Cond.instanceMethod ({ cls := "TeethForCoins$Goods", name := "useOf", desc := "(I)I" } : Jvm.MethodName)) ∈ TB := tb_t (tl_2 89 rfl) rfl
theorem w2_90 : (Jvm.Cond.code ({ cls := "TeethForCoins$Goods", name := "useOf", desc := "(I)I" } : Jvm.MethodName) prog_3_method_4_code (2 : Nat) (Option.some Jvm.ClassFile.FieldType.int)) ∈ TB := tb_t (tl_2 90 rfl) rfl
theorem w2_91 : (Jvm.Cond.methodLink "TeethForCoinsLaw" (47 : Nat) ({ cls := "TeethForCoins", name := "purse", desc := "(I)I" } : Jvm.MethodName)) ∈ TB := tb_t (tl_2 91 rfl) rfl
theorem w2_92 : (Jvm.Cond.instanceMethod ({ cls := "TeethForCoins", name := "purse", desc := "(I)I" } : Jvm.MethodName)) ∈ TB := tb_t (tl_2 92 rfl) rfl
theorem w2_93 : (Jvm.Cond.selects "TeethForCoins" ({ cls := "TeethForCoins", name := "purse", desc := "(I)I" } : Jvm.MethodName) ({ cls := "TeethForCoins", name := "purse", desc := "(I)I" } : Jvm.MethodName)) ∈ TB := tb_t (tl_2 93 rfl) rfl
theorem w2_94 : (Jvm.Cond.code ({ cls := "TeethForCoins", name := "purse", desc := "(I)I" } : Jvm.MethodName) prog_1_method_9_code (2 : Nat) (Option.some Jvm.ClassFile.FieldType.int)) ∈ TB := tb_t (tl_2 94 rfl) rfl
theorem w2_95 : (Jvm.Cond.methodLink "TeethForCoins" (139 : Nat) ({ cls := "TeethForCoins", name := "isPerson", desc := "(I)Z" } : Jvm.MethodName)) ∈ TB := tb_t (tl_2 95 rfl) rfl
theorem w2_96 : (Jvm.Cond.static ({ cls := "TeethForCoins", name := "isPerson", desc := "(I)Z" } : Jvm.MethodName)) ∈ TB := tb_t (tl_2 96 rfl) rfl
theorem w2_97 : (Jvm.Cond.code ({ cls := "TeethForCoins", name := "isPerson", desc := "(I)Z" } : Jvm.MethodName) prog_1_method_37_code (1 : Nat) (Option.some Jvm.ClassFile.FieldType.boolean)) ∈ TB := tb_t (tl_2 97 rfl) rfl
theorem w2_100 : (Jvm.Cond.instanceMethod ({ cls := "TeethForCoins$Teeth", name := "ownedBy", desc := "(I)I" } : Jvm.MethodName)) ∈ TB := tb_t (tl_2 100 rfl) rfl
theorem w2_101 : (Jvm.Cond.code ({ cls := "TeethForCoins$Teeth", name := "ownedBy", desc := "(I)I" } : Jvm.MethodName) prog_8_method_8_code (4 : Nat) (Option.some Jvm.ClassFile.FieldType.int)) ∈ TB := tb_t (tl_2 101 rfl) rfl
theorem w2_102 : (Jvm.Cond.methodLink "TeethForCoins" (145 : Nat) ({ cls := "TeethForCoins", name := "worthOfSet", desc := "(I)I" } : Jvm.MethodName)) ∈ TB := tb_t (tl_2 102 rfl) rfl
theorem w2_104 : (Jvm.Cond.instanceMethod ({ cls := "TeethForCoins", name := "worthOfSet", desc := "(I)I" } : Jvm.MethodName)) ∈ TB := tb_t (tl_2 104 rfl) rfl
theorem w2_105 : (Jvm.Cond.code ({ cls := "TeethForCoins", name := "worthOfSet", desc := "(I)I" } : Jvm.MethodName) prog_1_method_45_code (4 : Nat) (Option.some Jvm.ClassFile.FieldType.int)) ∈ TB := tb_t (tl_2 105 rfl) rfl
theorem w2_106 : (Jvm.Cond.methodLink "TeethForCoinsLaw" (51 : Nat) ({ cls := "TeethForCoins", name := "handle", desc := "(I)I" } : Jvm.MethodName)) ∈ TB := tb_t (tl_2 106 rfl) rfl
theorem w2_107 : (Jvm.Cond.instanceMethod ({ cls := "TeethForCoins", name := "handle", desc := "(I)I" } : Jvm.MethodName)) ∈ TB := tb_t (tl_2 107 rfl) rfl
theorem w2_108 : (Jvm.Cond.selects "TeethForCoins" ({ cls := "TeethForCoins", name := "handle", desc := "(I)I" } : Jvm.MethodName) ({ cls := "TeethForCoins", name := "handle", desc := "(I)I" } : Jvm.MethodName)) ∈ TB := tb_t (tl_2 108 rfl) rfl
theorem w2_109 : (Jvm.Cond.code ({ cls := "TeethForCoins", name := "handle", desc := "(I)I" } : Jvm.MethodName) prog_1_method_10_code (2 : Nat) (Option.some Jvm.ClassFile.FieldType.int)) ∈ TB := tb_t (tl_2 109 rfl) rfl
theorem w2_112 : (Jvm.Cond.instanceMethod ({ cls := "TeethForCoins$Teeth", name := "wearDown", desc := "(I)V" } : Jvm.MethodName)) ∈ TB := tb_t (tl_2 112 rfl) rfl
theorem w2_113 : (Jvm.Cond.code ({ cls := "TeethForCoins$Teeth", name := "wearDown", desc := "(I)V" } : Jvm.MethodName) prog_8_method_7_code (2 : Nat) (Option.none : Option Jvm.ClassFile.FieldType)) ∈ TB := tb_t (tl_2 113 rfl) rfl
theorem w2_114 : (Jvm.Cond.methodLink "TeethForCoins$Teeth" (31 : Nat) ({ cls := "java/lang/Math", name := "min", desc := "(II)I" } : Jvm.MethodName)) ∈ TB := tb_t (tl_2 114 rfl) rfl
theorem w2_115 : (Jvm.Cond.static ({ cls := "java/lang/Math", name := "min", desc := "(II)I" } : Jvm.MethodName)) ∈ TB := tb_t (tl_2 115 rfl) rfl
theorem w2_116 : (Jvm.Cond.code ({ cls := "java/lang/Math", name := "min", desc := "(II)I" } : Jvm.MethodName) prog_13_method_69_code (2 : Nat) (Option.some Jvm.ClassFile.FieldType.int)) ∈ TB := tb_t (tl_2 116 rfl) rfl
theorem w2_117 : (Jvm.Cond.methodLink "TeethForCoinsLaw" (55 : Nat) ({ cls := "TeethForCoins", name := "bite", desc := "(I)I" } : Jvm.MethodName)) ∈ TB := tb_t (tl_2 117 rfl) rfl
theorem w2_118 : (Jvm.Cond.instanceMethod ({ cls := "TeethForCoins", name := "bite", desc := "(I)I" } : Jvm.MethodName)) ∈ TB := tb_t (tl_2 118 rfl) rfl
theorem w2_119 : (Jvm.Cond.selects "TeethForCoins" ({ cls := "TeethForCoins", name := "bite", desc := "(I)I" } : Jvm.MethodName) ({ cls := "TeethForCoins", name := "bite", desc := "(I)I" } : Jvm.MethodName)) ∈ TB := tb_t (tl_2 119 rfl) rfl
theorem w2_120 : (Jvm.Cond.code ({ cls := "TeethForCoins", name := "bite", desc := "(I)I" } : Jvm.MethodName) prog_1_method_11_code (3 : Nat) (Option.some Jvm.ClassFile.FieldType.int)) ∈ TB := tb_t (tl_2 120 rfl) rfl
theorem w2_121 : (Jvm.Cond.methodLink "TeethForCoinsLaw" (59 : Nat) ({ cls := "TeethForCoins", name := "fewest", desc := "(III)I" } : Jvm.MethodName)) ∈ TB := tb_t (tl_2 121 rfl) rfl
theorem w2_122 : (Jvm.Cond.instanceMethod ({ cls := "TeethForCoins", name := "fewest", desc := "(III)I" } : Jvm.MethodName)) ∈ TB := tb_t (tl_2 122 rfl) rfl
theorem w2_123 : (Jvm.Cond.selects "TeethForCoins" ({ cls := "TeethForCoins", name := "fewest", desc := "(III)I" } : Jvm.MethodName) ({ cls := "TeethForCoins", name := "fewest", desc := "(III)I" } : Jvm.MethodName)) ∈ TB := tb_t (tl_2 123 rfl) rfl
theorem w2_124 : (Jvm.Cond.code ({ cls := "TeethForCoins", name := "fewest", desc := "(III)I" } : Jvm.MethodName) prog_1_method_12_code (5 : Nat) (Option.some Jvm.ClassFile.FieldType.int)) ∈ TB := tb_t (tl_2 124 rfl) rfl
theorem w2_125 : (Jvm.Cond.methodLink "TeethForCoins" (155 : Nat) ({ cls := "TeethForCoins", name := "paymentRefusal", desc := "(III)I" } : Jvm.MethodName)) ∈ TB := tb_t (tl_2 125 rfl) rfl
theorem w2_126 : (Jvm.Cond.static ({ cls := "TeethForCoins", name := "paymentRefusal", desc := "(III)I" } : Jvm.MethodName)) ∈ TB := tb_t (tl_2 126 rfl) rfl
theorem w2_127 : (Jvm.Cond.code ({ cls := "TeethForCoins", name := "paymentRefusal", desc := "(III)I" } : Jvm.MethodName) prog_1_method_41_code (3 : Nat) (Option.some Jvm.ClassFile.FieldType.int)) ∈ TB := tb_t (tl_2 127 rfl) rfl
theorem w2_128 : (Jvm.Cond.methodLink "TeethForCoins" (186 : Nat) ({ cls := "TeethForCoins", name := "isPrice", desc := "(I)Z" } : Jvm.MethodName)) ∈ TB := tb_t (tl_2 128 rfl) rfl
theorem w2_129 : (Jvm.Cond.static ({ cls := "TeethForCoins", name := "isPrice", desc := "(I)Z" } : Jvm.MethodName)) ∈ TB := tb_t (tl_2 129 rfl) rfl
theorem w2_130 : (Jvm.Cond.code ({ cls := "TeethForCoins", name := "isPrice", desc := "(I)Z" } : Jvm.MethodName) prog_1_method_39_code (1 : Nat) (Option.some Jvm.ClassFile.FieldType.boolean)) ∈ TB := tb_t (tl_2 130 rfl) rfl
theorem w2_131 : (Jvm.Cond.methodLink "TeethForCoins" (159 : Nat) ({ cls := "TeethForCoins", name := "seekFewest", desc := "(III)V" } : Jvm.MethodName)) ∈ TB := tb_t (tl_2 131 rfl) rfl
theorem w2_133 : (Jvm.Cond.instanceMethod ({ cls := "TeethForCoins", name := "seekFewest", desc := "(III)V" } : Jvm.MethodName)) ∈ TB := tb_t (tl_2 133 rfl) rfl
theorem w2_134 : (Jvm.Cond.code ({ cls := "TeethForCoins", name := "seekFewest", desc := "(III)V" } : Jvm.MethodName) prog_1_method_48_code (8 : Nat) (Option.none : Option Jvm.ClassFile.FieldType)) ∈ TB := tb_t (tl_2 134 rfl) rfl
theorem w2_135 : (Jvm.Cond.methodLink "TeethForCoins" (192 : Nat) ({ cls := "TeethForCoins", name := "weighSets", desc := "(I)V" } : Jvm.MethodName)) ∈ TB := tb_t (tl_2 135 rfl) rfl
theorem w2_137 : (Jvm.Cond.instanceMethod ({ cls := "TeethForCoins", name := "weighSets", desc := "(I)V" } : Jvm.MethodName)) ∈ TB := tb_t (tl_2 137 rfl) rfl
theorem w2_138 : (Jvm.Cond.code ({ cls := "TeethForCoins", name := "weighSets", desc := "(I)V" } : Jvm.MethodName) prog_1_method_47_code (6 : Nat) (Option.none : Option Jvm.ClassFile.FieldType)) ∈ TB := tb_t (tl_2 138 rfl) rfl
theorem w2_141 : (Jvm.Cond.instanceMethod ({ cls := "TeethForCoins$Least", name := "clear", desc := "()V" } : Jvm.MethodName)) ∈ TB := tb_t (tl_2 141 rfl) rfl
theorem w2_142 : (Jvm.Cond.code ({ cls := "TeethForCoins$Least", name := "clear", desc := "()V" } : Jvm.MethodName) prog_4_method_2_code (1 : Nat) (Option.none : Option Jvm.ClassFile.FieldType)) ∈ TB := tb_t (tl_2 142 rfl) rfl
theorem w2_143 : (Jvm.Cond.methodLink "TeethForCoins" (201 : Nat) ({ cls := "TeethForCoins", name := "setsOfTeeth", desc := "()I" } : Jvm.MethodName)) ∈ TB := tb_t (tl_2 143 rfl) rfl
theorem w2_145 : (Jvm.Cond.instanceMethod ({ cls := "TeethForCoins", name := "setsOfTeeth", desc := "()I" } : Jvm.MethodName)) ∈ TB := tb_t (tl_2 145 rfl) rfl
theorem w2_146 : (Jvm.Cond.code ({ cls := "TeethForCoins", name := "setsOfTeeth", desc := "()I" } : Jvm.MethodName) prog_1_method_46_code (1 : Nat) (Option.some Jvm.ClassFile.FieldType.int)) ∈ TB := tb_t (tl_2 146 rfl) rfl
theorem w2_147 : (Jvm.Cond.methodLink "TeethForCoins" (307 : Nat) ({ cls := "java/lang/Math", name := "min", desc := "(II)I" } : Jvm.MethodName)) ∈ TB := tb_t (tl_2 147 rfl) rfl
theorem w2_148 : (Jvm.Cond.methodLink "TeethForCoins" (310 : Nat) ({ cls := "java/lang/Integer", name := "bitCount", desc := "(I)I" } : Jvm.MethodName)) ∈ TB := tb_t (tl_2 148 rfl) rfl
theorem w2_149 : (Jvm.Cond.static ({ cls := "java/lang/Integer", name := "bitCount", desc := "(I)I" } : Jvm.MethodName)) ∈ TB := tb_t (tl_2 149 rfl) rfl
theorem w2_150 : (Jvm.Cond.code ({ cls := "java/lang/Integer", name := "bitCount", desc := "(I)I" } : Jvm.MethodName) prog_12_method_49_code (1 : Nat) (Option.some Jvm.ClassFile.FieldType.int)) ∈ TB := tb_t (tl_2 150 rfl) rfl
theorem w2_151 : (Jvm.Cond.constant "java/lang/Integer" (265 : Nat) (1431655765 : Int32)) ∈ TB := tb_t (tl_2 151 rfl) rfl
theorem w2_152 : (Jvm.Cond.constant "java/lang/Integer" (266 : Nat) (858993459 : Int32)) ∈ TB := tb_t (tl_2 152 rfl) rfl
theorem w2_153 : (Jvm.Cond.constant "java/lang/Integer" (267 : Nat) (252645135 : Int32)) ∈ TB := tb_t (tl_2 153 rfl) rfl
theorem w2_156 : (Jvm.Cond.instanceMethod ({ cls := "TeethForCoins$Least", name := "offer", desc := "(III)V" } : Jvm.MethodName)) ∈ TB := tb_t (tl_2 156 rfl) rfl
theorem w2_157 : (Jvm.Cond.code ({ cls := "TeethForCoins$Least", name := "offer", desc := "(III)V" } : Jvm.MethodName) prog_4_method_3_code (4 : Nat) (Option.none : Option Jvm.ClassFile.FieldType)) ∈ TB := tb_t (tl_2 157 rfl) rfl
theorem w2_158 : (Jvm.Cond.methodLink "TeethForCoinsLaw" (64 : Nat) ({ cls := "TeethForCoins", name := "paid", desc := "(IIIZ)I" } : Jvm.MethodName)) ∈ TB := tb_t (tl_2 158 rfl) rfl
theorem w2_159 : (Jvm.Cond.instanceMethod ({ cls := "TeethForCoins", name := "paid", desc := "(IIIZ)I" } : Jvm.MethodName)) ∈ TB := tb_t (tl_2 159 rfl) rfl
theorem w2_160 : (Jvm.Cond.selects "TeethForCoins" ({ cls := "TeethForCoins", name := "paid", desc := "(IIIZ)I" } : Jvm.MethodName) ({ cls := "TeethForCoins", name := "paid", desc := "(IIIZ)I" } : Jvm.MethodName)) ∈ TB := tb_t (tl_2 160 rfl) rfl
theorem w2_161 : (Jvm.Cond.code ({ cls := "TeethForCoins", name := "paid", desc := "(IIIZ)I" } : Jvm.MethodName) prog_1_method_13_code (6 : Nat) (Option.some Jvm.ClassFile.FieldType.int)) ∈ TB := tb_t (tl_2 161 rfl) rfl
theorem w2_162 : (Jvm.Cond.methodLink "TeethForCoinsLaw" (69 : Nat) ({ cls := "TeethForCoins", name := "pay", desc := "(III)I" } : Jvm.MethodName)) ∈ TB := tb_t (tl_2 162 rfl) rfl
theorem w2_163 : (Jvm.Cond.instanceMethod ({ cls := "TeethForCoins", name := "pay", desc := "(III)I" } : Jvm.MethodName)) ∈ TB := tb_t (tl_2 163 rfl) rfl
theorem w2_164 : (Jvm.Cond.selects "TeethForCoins" ({ cls := "TeethForCoins", name := "pay", desc := "(III)I" } : Jvm.MethodName) ({ cls := "TeethForCoins", name := "pay", desc := "(III)I" } : Jvm.MethodName)) ∈ TB := tb_t (tl_2 164 rfl) rfl
theorem w2_165 : (Jvm.Cond.code ({ cls := "TeethForCoins", name := "pay", desc := "(III)I" } : Jvm.MethodName) prog_1_method_14_code (5 : Nat) (Option.some Jvm.ClassFile.FieldType.int)) ∈ TB := tb_t (tl_2 165 rfl) rfl
theorem w2_168 : (Jvm.Cond.instanceMethod ({ cls := "TeethForCoins$Bargains", name := "remember", desc := "(LTeethForCoins$Teeth;)V" } : Jvm.MethodName)) ∈ TB := tb_t (tl_2 168 rfl) rfl
theorem w2_169 : (Jvm.Cond.code ({ cls := "TeethForCoins$Bargains", name := "remember", desc := "(LTeethForCoins$Teeth;)V" } : Jvm.MethodName) prog_2_method_2_code (2 : Nat) (Option.none : Option Jvm.ClassFile.FieldType)) ∈ TB := tb_t (tl_2 169 rfl) rfl
theorem w2_172 : (Jvm.Cond.instanceMethod ({ cls := "TeethForCoins$Teeth", name := "copyFrom", desc := "(LTeethForCoins$Teeth;)V" } : Jvm.MethodName)) ∈ TB := tb_t (tl_2 172 rfl) rfl
theorem w2_173 : (Jvm.Cond.code ({ cls := "TeethForCoins$Teeth", name := "copyFrom", desc := "(LTeethForCoins$Teeth;)V" } : Jvm.MethodName) prog_8_method_12_code (2 : Nat) (Option.none : Option Jvm.ClassFile.FieldType)) ∈ TB := tb_t (tl_2 173 rfl) rfl
theorem w2_174 : (Jvm.Cond.methodLink "TeethForCoins$Teeth" (43 : Nat) ({ cls := "TeethForCoins$Teeth", name := "copyCells", desc := "(LTeethForCoins$Teeth;II)V" } : Jvm.MethodName)) ∈ TB := tb_t (tl_2 174 rfl) rfl
theorem w2_176 : (Jvm.Cond.instanceMethod ({ cls := "TeethForCoins$Teeth", name := "copyCells", desc := "(LTeethForCoins$Teeth;II)V" } : Jvm.MethodName)) ∈ TB := tb_t (tl_2 176 rfl) rfl
theorem w2_177 : (Jvm.Cond.code ({ cls := "TeethForCoins$Teeth", name := "copyCells", desc := "(LTeethForCoins$Teeth;II)V" } : Jvm.MethodName) prog_8_method_14_code (4 : Nat) (Option.none : Option Jvm.ClassFile.FieldType)) ∈ TB := tb_t (tl_2 177 rfl) rfl
theorem w2_178 : (Jvm.Cond.methodLink "TeethForCoins$Teeth" (47 : Nat) ({ cls := "java/lang/System", name := "arraycopy", desc := "(Ljava/lang/Object;ILjava/lang/Object;II)V" } : Jvm.MethodName)) ∈ TB := tb_t (tl_2 178 rfl) rfl
theorem w2_179 : (Jvm.Cond.static ({ cls := "java/lang/System", name := "arraycopy", desc := "(Ljava/lang/Object;ILjava/lang/Object;II)V" } : Jvm.MethodName)) ∈ TB := tb_t (tl_2 179 rfl) rfl
theorem w2_180 : (Jvm.Cond.native ({ cls := "java/lang/System", name := "arraycopy", desc := "(Ljava/lang/Object;ILjava/lang/Object;II)V" } : Jvm.MethodName)) ∈ TB := tb_t (tl_2 180 rfl) rfl
theorem w2_181 : (Jvm.Cond.methodLink "TeethForCoins" (179 : Nat) ({ cls := "TeethForCoins", name := "handOver", desc := "(II)V" } : Jvm.MethodName)) ∈ TB := tb_t (tl_2 181 rfl) rfl
theorem w2_183 : (Jvm.Cond.instanceMethod ({ cls := "TeethForCoins", name := "handOver", desc := "(II)V" } : Jvm.MethodName)) ∈ TB := tb_t (tl_2 183 rfl) rfl
theorem w2_184 : (Jvm.Cond.code ({ cls := "TeethForCoins", name := "handOver", desc := "(II)V" } : Jvm.MethodName) prog_1_method_50_code (4 : Nat) (Option.none : Option Jvm.ClassFile.FieldType)) ∈ TB := tb_t (tl_2 184 rfl) rfl
theorem w2_186 : (Jvm.Cond.methodLink "TeethForCoinsLaw" (73 : Nat) ({ cls := "TeethForCoins", name := "undo", desc := "()I" } : Jvm.MethodName)) ∈ TB := tb_t (tl_2 186 rfl) rfl
theorem w2_187 : (Jvm.Cond.instanceMethod ({ cls := "TeethForCoins", name := "undo", desc := "()I" } : Jvm.MethodName)) ∈ TB := tb_t (tl_2 187 rfl) rfl
theorem w2_188 : (Jvm.Cond.selects "TeethForCoins" ({ cls := "TeethForCoins", name := "undo", desc := "()I" } : Jvm.MethodName) ({ cls := "TeethForCoins", name := "undo", desc := "()I" } : Jvm.MethodName)) ∈ TB := tb_t (tl_2 188 rfl) rfl
theorem w2_189 : (Jvm.Cond.code ({ cls := "TeethForCoins", name := "undo", desc := "()I" } : Jvm.MethodName) prog_1_method_15_code (1 : Nat) (Option.some Jvm.ClassFile.FieldType.int)) ∈ TB := tb_t (tl_2 189 rfl) rfl
theorem w2_192 : (Jvm.Cond.instanceMethod ({ cls := "TeethForCoins$Bargains", name := "takeBack", desc := "(LTeethForCoins$Teeth;)V" } : Jvm.MethodName)) ∈ TB := tb_t (tl_2 192 rfl) rfl
theorem w2_193 : (Jvm.Cond.code ({ cls := "TeethForCoins$Bargains", name := "takeBack", desc := "(LTeethForCoins$Teeth;)V" } : Jvm.MethodName) prog_2_method_3_code (2 : Nat) (Option.none : Option Jvm.ClassFile.FieldType)) ∈ TB := tb_t (tl_2 193 rfl) rfl
theorem w2_196 : (Jvm.Cond.instanceMethod ({ cls := "TeethForCoins$Teeth", name := "takeBack", desc := "(LTeethForCoins$Teeth;)V" } : Jvm.MethodName)) ∈ TB := tb_t (tl_2 196 rfl) rfl
theorem w2_197 : (Jvm.Cond.code ({ cls := "TeethForCoins$Teeth", name := "takeBack", desc := "(LTeethForCoins$Teeth;)V" } : Jvm.MethodName) prog_8_method_13_code (4 : Nat) (Option.none : Option Jvm.ClassFile.FieldType)) ∈ TB := tb_t (tl_2 197 rfl) rfl
theorem w2_198 : (Jvm.Cond.methodLink "TeethForCoinsLaw" (77 : Nat) ({ cls := "TeethForCoins", name := "tooMuch", desc := "(IIZ)I" } : Jvm.MethodName)) ∈ TB := tb_t (tl_2 198 rfl) rfl
theorem w2_199 : (Jvm.Cond.instanceMethod ({ cls := "TeethForCoins", name := "tooMuch", desc := "(IIZ)I" } : Jvm.MethodName)) ∈ TB := tb_t (tl_2 199 rfl) rfl
theorem w2_200 : (Jvm.Cond.selects "TeethForCoins" ({ cls := "TeethForCoins", name := "tooMuch", desc := "(IIZ)I" } : Jvm.MethodName) ({ cls := "TeethForCoins", name := "tooMuch", desc := "(IIZ)I" } : Jvm.MethodName)) ∈ TB := tb_t (tl_2 200 rfl) rfl
theorem w2_201 : (Jvm.Cond.code ({ cls := "TeethForCoins", name := "tooMuch", desc := "(IIZ)I" } : Jvm.MethodName) prog_1_method_16_code (4 : Nat) (Option.some Jvm.ClassFile.FieldType.int)) ∈ TB := tb_t (tl_2 201 rfl) rfl
theorem w2_202 : (Jvm.Cond.methodLink "TeethForCoins" (189 : Nat) ({ cls := "TeethForCoins", name := "seekTooMuch", desc := "(II)V" } : Jvm.MethodName)) ∈ TB := tb_t (tl_2 202 rfl) rfl
theorem w2_204 : (Jvm.Cond.instanceMethod ({ cls := "TeethForCoins", name := "seekTooMuch", desc := "(II)V" } : Jvm.MethodName)) ∈ TB := tb_t (tl_2 204 rfl) rfl
theorem w2_205 : (Jvm.Cond.code ({ cls := "TeethForCoins", name := "seekTooMuch", desc := "(II)V" } : Jvm.MethodName) prog_1_method_49_code (4 : Nat) (Option.none : Option Jvm.ClassFile.FieldType)) ∈ TB := tb_t (tl_2 205 rfl) rfl
theorem w2_206 : (Jvm.Cond.methodLink "TeethForCoinsLaw" (82 : Nat) ({ cls := "TeethForCoins", name := "sums", desc := "(III)I" } : Jvm.MethodName)) ∈ TB := tb_t (tl_2 206 rfl) rfl
theorem w2_207 : (Jvm.Cond.instanceMethod ({ cls := "TeethForCoins", name := "sums", desc := "(III)I" } : Jvm.MethodName)) ∈ TB := tb_t (tl_2 207 rfl) rfl
theorem w2_208 : (Jvm.Cond.selects "TeethForCoins" ({ cls := "TeethForCoins", name := "sums", desc := "(III)I" } : Jvm.MethodName) ({ cls := "TeethForCoins", name := "sums", desc := "(III)I" } : Jvm.MethodName)) ∈ TB := tb_t (tl_2 208 rfl) rfl
theorem w2_209 : (Jvm.Cond.code ({ cls := "TeethForCoins", name := "sums", desc := "(III)I" } : Jvm.MethodName) prog_1_method_17_code (9 : Nat) (Option.some Jvm.ClassFile.FieldType.int)) ∈ TB := tb_t (tl_2 209 rfl) rfl
theorem w2_210 : (Jvm.Cond.methodLink "TeethForCoins" (195 : Nat) ({ cls := "java/util/Arrays", name := "fill", desc := "([II)V" } : Jvm.MethodName)) ∈ TB := tb_t (tl_2 210 rfl) rfl
theorem w2_211 : (Jvm.Cond.methodLink "TeethForCoinsLaw" (86 : Nat) ({ cls := "TeethForCoins", name := "spent", desc := "(IZ)I" } : Jvm.MethodName)) ∈ TB := tb_t (tl_2 211 rfl) rfl
theorem w2_212 : (Jvm.Cond.instanceMethod ({ cls := "TeethForCoins", name := "spent", desc := "(IZ)I" } : Jvm.MethodName)) ∈ TB := tb_t (tl_2 212 rfl) rfl
theorem w2_213 : (Jvm.Cond.selects "TeethForCoins" ({ cls := "TeethForCoins", name := "spent", desc := "(IZ)I" } : Jvm.MethodName) ({ cls := "TeethForCoins", name := "spent", desc := "(IZ)I" } : Jvm.MethodName)) ∈ TB := tb_t (tl_2 213 rfl) rfl
theorem w2_214 : (Jvm.Cond.code ({ cls := "TeethForCoins", name := "spent", desc := "(IZ)I" } : Jvm.MethodName) prog_1_method_18_code (6 : Nat) (Option.some Jvm.ClassFile.FieldType.int)) ∈ TB := tb_t (tl_2 214 rfl) rfl
theorem w2_217 : (Jvm.Cond.instanceMethod ({ cls := "TeethForCoins$Goods", name := "priceOfSet", desc := "(I)I" } : Jvm.MethodName)) ∈ TB := tb_t (tl_2 217 rfl) rfl
theorem w2_218 : (Jvm.Cond.code ({ cls := "TeethForCoins$Goods", name := "priceOfSet", desc := "(I)I" } : Jvm.MethodName) prog_3_method_5_code (4 : Nat) (Option.some Jvm.ClassFile.FieldType.int)) ∈ TB := tb_t (tl_2 218 rfl) rfl
theorem w2_219 : (Jvm.Cond.methodLink "TeethForCoins$Goods" (22 : Nat) ({ cls := "TeethForCoins$Goods", name := "priceOf", desc := "(I)I" } : Jvm.MethodName)) ∈ TB := tb_t (tl_2 219 rfl) rfl
theorem w2_222 : (Jvm.Cond.instanceMethod ({ cls := "TeethForCoins$Goods", name := "useOfSet", desc := "(I)I" } : Jvm.MethodName)) ∈ TB := tb_t (tl_2 222 rfl) rfl
theorem w2_223 : (Jvm.Cond.code ({ cls := "TeethForCoins$Goods", name := "useOfSet", desc := "(I)I" } : Jvm.MethodName) prog_3_method_6_code (4 : Nat) (Option.some Jvm.ClassFile.FieldType.int)) ∈ TB := tb_t (tl_2 223 rfl) rfl
theorem w2_224 : (Jvm.Cond.methodLink "TeethForCoins$Goods" (26 : Nat) ({ cls := "TeethForCoins$Goods", name := "useOf", desc := "(I)I" } : Jvm.MethodName)) ∈ TB := tb_t (tl_2 224 rfl) rfl
theorem w2_225 : (Jvm.Cond.methodLink "TeethForCoinsLaw" (91 : Nat) ({ cls := "TeethForCoins", name := "caught", desc := "(IJ)I" } : Jvm.MethodName)) ∈ TB := tb_t (tl_2 225 rfl) rfl
theorem w2_226 : (Jvm.Cond.instanceMethod ({ cls := "TeethForCoins", name := "caught", desc := "(IJ)I" } : Jvm.MethodName)) ∈ TB := tb_t (tl_2 226 rfl) rfl
theorem w2_227 : (Jvm.Cond.selects "TeethForCoins" ({ cls := "TeethForCoins", name := "caught", desc := "(IJ)I" } : Jvm.MethodName) ({ cls := "TeethForCoins", name := "caught", desc := "(IJ)I" } : Jvm.MethodName)) ∈ TB := tb_t (tl_2 227 rfl) rfl
theorem w2_228 : (Jvm.Cond.code ({ cls := "TeethForCoins", name := "caught", desc := "(IJ)I" } : Jvm.MethodName) prog_1_method_19_code (4 : Nat) (Option.some Jvm.ClassFile.FieldType.int)) ∈ TB := tb_t (tl_2 228 rfl) rfl
theorem w2_229 : (Jvm.Cond.methodLink "TeethForCoins" (216 : Nat) ({ cls := "TeethForCoins", name := "drawFrom", desc := "(J)J" } : Jvm.MethodName)) ∈ TB := tb_t (tl_2 229 rfl) rfl
theorem w2_230 : (Jvm.Cond.static ({ cls := "TeethForCoins", name := "drawFrom", desc := "(J)J" } : Jvm.MethodName)) ∈ TB := tb_t (tl_2 230 rfl) rfl
theorem w2_231 : (Jvm.Cond.code ({ cls := "TeethForCoins", name := "drawFrom", desc := "(J)J" } : Jvm.MethodName) prog_1_method_51_code (2 : Nat) (Option.some Jvm.ClassFile.FieldType.long)) ∈ TB := tb_t (tl_2 231 rfl) rfl
theorem w2_232 : (Jvm.Cond.constantLong "TeethForCoins" (318 : Nat) (6364136223846793005 : Int64)) ∈ TB := tb_t (tl_2 232 rfl) rfl
theorem w2_233 : (Jvm.Cond.constantLong "TeethForCoins" (320 : Nat) (1442695040888963407 : Int64)) ∈ TB := tb_t (tl_2 233 rfl) rfl
theorem w2_234 : (Jvm.Cond.methodLink "TeethForCoins" (220 : Nat) ({ cls := "TeethForCoins", name := "addDrawn", desc := "(IJ)V" } : Jvm.MethodName)) ∈ TB := tb_t (tl_2 234 rfl) rfl
theorem w2_236 : (Jvm.Cond.instanceMethod ({ cls := "TeethForCoins", name := "addDrawn", desc := "(IJ)V" } : Jvm.MethodName)) ∈ TB := tb_t (tl_2 236 rfl) rfl
theorem w2_237 : (Jvm.Cond.code ({ cls := "TeethForCoins", name := "addDrawn", desc := "(IJ)V" } : Jvm.MethodName) prog_1_method_52_code (6 : Nat) (Option.none : Option Jvm.ClassFile.FieldType)) ∈ TB := tb_t (tl_2 237 rfl) rfl
theorem w2_238 : (Jvm.Cond.constantLong "TeethForCoins" (322 : Nat) (9 : Int64)) ∈ TB := tb_t (tl_2 238 rfl) rfl
theorem w2_239 : (Jvm.Cond.constantLong "TeethForCoins" (324 : Nat) (2 : Int64)) ∈ TB := tb_t (tl_2 239 rfl) rfl
theorem w3_0 : (Jvm.Cond.methodLink "TeethForCoinsLaw" (95 : Nat) ({ cls := "TeethForCoins", name := "washed", desc := "(IJ)I" } : Jvm.MethodName)) ∈ TB := tb_t (tl_3 0 rfl) rfl
theorem w3_1 : (Jvm.Cond.instanceMethod ({ cls := "TeethForCoins", name := "washed", desc := "(IJ)I" } : Jvm.MethodName)) ∈ TB := tb_t (tl_3 1 rfl) rfl
theorem w3_2 : (Jvm.Cond.selects "TeethForCoins" ({ cls := "TeethForCoins", name := "washed", desc := "(IJ)I" } : Jvm.MethodName) ({ cls := "TeethForCoins", name := "washed", desc := "(IJ)I" } : Jvm.MethodName)) ∈ TB := tb_t (tl_3 2 rfl) rfl
theorem w3_3 : (Jvm.Cond.code ({ cls := "TeethForCoins", name := "washed", desc := "(IJ)I" } : Jvm.MethodName) prog_1_method_20_code (7 : Nat) (Option.some Jvm.ClassFile.FieldType.int)) ∈ TB := tb_t (tl_3 3 rfl) rfl
theorem w3_4 : (Jvm.Cond.methodLink "TeethForCoinsLaw" (99 : Nat) ({ cls := "TeethForCoins", name := "life", desc := "(II)I" } : Jvm.MethodName)) ∈ TB := tb_t (tl_3 4 rfl) rfl
theorem w3_5 : (Jvm.Cond.instanceMethod ({ cls := "TeethForCoins", name := "life", desc := "(II)I" } : Jvm.MethodName)) ∈ TB := tb_t (tl_3 5 rfl) rfl
theorem w3_6 : (Jvm.Cond.selects "TeethForCoins" ({ cls := "TeethForCoins", name := "life", desc := "(II)I" } : Jvm.MethodName) ({ cls := "TeethForCoins", name := "life", desc := "(II)I" } : Jvm.MethodName)) ∈ TB := tb_t (tl_3 6 rfl) rfl
theorem w3_7 : (Jvm.Cond.code ({ cls := "TeethForCoins", name := "life", desc := "(II)I" } : Jvm.MethodName) prog_1_method_21_code (5 : Nat) (Option.some Jvm.ClassFile.FieldType.int)) ∈ TB := tb_t (tl_3 7 rfl) rfl
theorem w3_8 : (Jvm.Cond.methodLink "TeethForCoinsLaw" (103 : Nat) ({ cls := "TeethForCoins", name := "trace", desc := "(II)I" } : Jvm.MethodName)) ∈ TB := tb_t (tl_3 8 rfl) rfl
theorem w3_9 : (Jvm.Cond.instanceMethod ({ cls := "TeethForCoins", name := "trace", desc := "(II)I" } : Jvm.MethodName)) ∈ TB := tb_t (tl_3 9 rfl) rfl
theorem w3_10 : (Jvm.Cond.selects "TeethForCoins" ({ cls := "TeethForCoins", name := "trace", desc := "(II)I" } : Jvm.MethodName) ({ cls := "TeethForCoins", name := "trace", desc := "(II)I" } : Jvm.MethodName)) ∈ TB := tb_t (tl_3 10 rfl) rfl
theorem w3_11 : (Jvm.Cond.code ({ cls := "TeethForCoins", name := "trace", desc := "(II)I" } : Jvm.MethodName) prog_1_method_22_code (3 : Nat) (Option.some Jvm.ClassFile.FieldType.int)) ∈ TB := tb_t (tl_3 11 rfl) rfl
theorem w3_14 : (Jvm.Cond.instanceMethod ({ cls := "TeethForCoins$Teeth", name := "traceOf", desc := "(II)I" } : Jvm.MethodName)) ∈ TB := tb_t (tl_3 14 rfl) rfl
theorem w3_15 : (Jvm.Cond.code ({ cls := "TeethForCoins$Teeth", name := "traceOf", desc := "(II)I" } : Jvm.MethodName) prog_8_method_6_code (3 : Nat) (Option.some Jvm.ClassFile.FieldType.int)) ∈ TB := tb_t (tl_3 15 rfl) rfl
theorem w3_16 : (Jvm.Cond.methodLink "TeethForCoinsLaw" (107 : Nat) ({ cls := "TeethForCoins", name := "inflated", desc := "(II)I" } : Jvm.MethodName)) ∈ TB := tb_t (tl_3 16 rfl) rfl
theorem w3_17 : (Jvm.Cond.instanceMethod ({ cls := "TeethForCoins", name := "inflated", desc := "(II)I" } : Jvm.MethodName)) ∈ TB := tb_t (tl_3 17 rfl) rfl
theorem w3_18 : (Jvm.Cond.selects "TeethForCoins" ({ cls := "TeethForCoins", name := "inflated", desc := "(II)I" } : Jvm.MethodName) ({ cls := "TeethForCoins", name := "inflated", desc := "(II)I" } : Jvm.MethodName)) ∈ TB := tb_t (tl_3 18 rfl) rfl
theorem w3_19 : (Jvm.Cond.code ({ cls := "TeethForCoins", name := "inflated", desc := "(II)I" } : Jvm.MethodName) prog_1_method_23_code (4 : Nat) (Option.some Jvm.ClassFile.FieldType.int)) ∈ TB := tb_t (tl_3 19 rfl) rfl
theorem w3_20 : (Jvm.Cond.methodLink "TeethForCoinsLaw" (111 : Nat) ({ cls := "TeethForCoins", name := "doubt", desc := "(IIIIIZ)J" } : Jvm.MethodName)) ∈ TB := tb_t (tl_3 20 rfl) rfl
theorem w3_21 : (Jvm.Cond.instanceMethod ({ cls := "TeethForCoins", name := "doubt", desc := "(IIIIIZ)J" } : Jvm.MethodName)) ∈ TB := tb_t (tl_3 21 rfl) rfl
theorem w3_22 : (Jvm.Cond.selects "TeethForCoins" ({ cls := "TeethForCoins", name := "doubt", desc := "(IIIIIZ)J" } : Jvm.MethodName) ({ cls := "TeethForCoins", name := "doubt", desc := "(IIIIIZ)J" } : Jvm.MethodName)) ∈ TB := tb_t (tl_3 22 rfl) rfl
theorem w3_23 : (Jvm.Cond.code ({ cls := "TeethForCoins", name := "doubt", desc := "(IIIIIZ)J" } : Jvm.MethodName) prog_1_method_24_code (11 : Nat) (Option.some Jvm.ClassFile.FieldType.long)) ∈ TB := tb_t (tl_3 23 rfl) rfl
theorem w3_24 : (Jvm.Cond.methodLink "TeethForCoins" (230 : Nat) ({ cls := "TeethForCoins", name := "isTenths", desc := "(I)Z" } : Jvm.MethodName)) ∈ TB := tb_t (tl_3 24 rfl) rfl
theorem w3_25 : (Jvm.Cond.static ({ cls := "TeethForCoins", name := "isTenths", desc := "(I)Z" } : Jvm.MethodName)) ∈ TB := tb_t (tl_3 25 rfl) rfl
theorem w3_26 : (Jvm.Cond.code ({ cls := "TeethForCoins", name := "isTenths", desc := "(I)Z" } : Jvm.MethodName) prog_1_method_40_code (1 : Nat) (Option.some Jvm.ClassFile.FieldType.boolean)) ∈ TB := tb_t (tl_3 26 rfl) rfl
theorem w3_27 : (Jvm.Cond.constantLong "TeethForCoins" (233 : Nat) (-2 : Int64)) ∈ TB := tb_t (tl_3 27 rfl) rfl
theorem w3_28 : (Jvm.Cond.methodLink "TeethForCoins" (235 : Nat) ({ cls := "TeethForCoins", name := "power", desc := "(JI)J" } : Jvm.MethodName)) ∈ TB := tb_t (tl_3 28 rfl) rfl
theorem w3_29 : (Jvm.Cond.static ({ cls := "TeethForCoins", name := "power", desc := "(JI)J" } : Jvm.MethodName)) ∈ TB := tb_t (tl_3 29 rfl) rfl
theorem w3_30 : (Jvm.Cond.code ({ cls := "TeethForCoins", name := "power", desc := "(JI)J" } : Jvm.MethodName) prog_1_method_53_code (6 : Nat) (Option.some Jvm.ClassFile.FieldType.long)) ∈ TB := tb_t (tl_3 30 rfl) rfl
theorem w3_31 : (Jvm.Cond.constantLong "TeethForCoins" (239 : Nat) (-3 : Int64)) ∈ TB := tb_t (tl_3 31 rfl) rfl
theorem w3_32 : (Jvm.Cond.methodLink "TeethForCoins" (241 : Nat) ({ cls := "TeethForCoins", name := "ofFraction", desc := "(JJZ)J" } : Jvm.MethodName)) ∈ TB := tb_t (tl_3 32 rfl) rfl
theorem w3_33 : (Jvm.Cond.static ({ cls := "TeethForCoins", name := "ofFraction", desc := "(JJZ)J" } : Jvm.MethodName)) ∈ TB := tb_t (tl_3 33 rfl) rfl
theorem w3_34 : (Jvm.Cond.code ({ cls := "TeethForCoins", name := "ofFraction", desc := "(JJZ)J" } : Jvm.MethodName) prog_1_method_54_code (7 : Nat) (Option.some Jvm.ClassFile.FieldType.long)) ∈ TB := tb_t (tl_3 34 rfl) rfl
theorem w3_35 : (Jvm.Cond.methodLink "TeethForCoins" (326 : Nat) ({ cls := "TeethForCoins", name := "commonDivisor", desc := "(JJ)J" } : Jvm.MethodName)) ∈ TB := tb_t (tl_3 35 rfl) rfl
theorem w3_36 : (Jvm.Cond.static ({ cls := "TeethForCoins", name := "commonDivisor", desc := "(JJ)J" } : Jvm.MethodName)) ∈ TB := tb_t (tl_3 36 rfl) rfl
theorem w3_37 : (Jvm.Cond.code ({ cls := "TeethForCoins", name := "commonDivisor", desc := "(JJ)J" } : Jvm.MethodName) prog_1_method_55_code (11 : Nat) (Option.some Jvm.ClassFile.FieldType.long)) ∈ TB := tb_t (tl_3 37 rfl) rfl
theorem w3_38 : (Jvm.Cond.methodLink "TeethForCoinsLaw" (116 : Nat) ({ cls := "TeethForCoins", name := "among", desc := "(IIIZ)J" } : Jvm.MethodName)) ∈ TB := tb_t (tl_3 38 rfl) rfl
theorem w3_39 : (Jvm.Cond.instanceMethod ({ cls := "TeethForCoins", name := "among", desc := "(IIIZ)J" } : Jvm.MethodName)) ∈ TB := tb_t (tl_3 39 rfl) rfl
theorem w3_40 : (Jvm.Cond.selects "TeethForCoins" ({ cls := "TeethForCoins", name := "among", desc := "(IIIZ)J" } : Jvm.MethodName) ({ cls := "TeethForCoins", name := "among", desc := "(IIIZ)J" } : Jvm.MethodName)) ∈ TB := tb_t (tl_3 40 rfl) rfl
theorem w3_41 : (Jvm.Cond.code ({ cls := "TeethForCoins", name := "among", desc := "(IIIZ)J" } : Jvm.MethodName) prog_1_method_25_code (10 : Nat) (Option.some Jvm.ClassFile.FieldType.long)) ∈ TB := tb_t (tl_3 41 rfl) rfl
theorem w3_42 : (Jvm.Cond.constantLong "TeethForCoins" (245 : Nat) (10 : Int64)) ∈ TB := tb_t (tl_3 42 rfl) rfl
theorem w3_43 : (Jvm.Cond.methodLink "TeethForCoinsLaw" (121 : Nat) ({ cls := "TeethForCoins", name := "rate", desc := "(IIII)I" } : Jvm.MethodName)) ∈ TB := tb_t (tl_3 43 rfl) rfl
theorem w3_44 : (Jvm.Cond.instanceMethod ({ cls := "TeethForCoins", name := "rate", desc := "(IIII)I" } : Jvm.MethodName)) ∈ TB := tb_t (tl_3 44 rfl) rfl
theorem w3_45 : (Jvm.Cond.selects "TeethForCoins" ({ cls := "TeethForCoins", name := "rate", desc := "(IIII)I" } : Jvm.MethodName) ({ cls := "TeethForCoins", name := "rate", desc := "(IIII)I" } : Jvm.MethodName)) ∈ TB := tb_t (tl_3 45 rfl) rfl
theorem w3_46 : (Jvm.Cond.code ({ cls := "TeethForCoins", name := "rate", desc := "(IIII)I" } : Jvm.MethodName) prog_1_method_26_code (6 : Nat) (Option.some Jvm.ClassFile.FieldType.int)) ∈ TB := tb_t (tl_3 46 rfl) rfl
theorem w3_47 : (Jvm.Cond.methodLink "TeethForCoins" (247 : Nat) ({ cls := "TeethForCoins", name := "isMoney", desc := "(I)Z" } : Jvm.MethodName)) ∈ TB := tb_t (tl_3 47 rfl) rfl
theorem w3_48 : (Jvm.Cond.static ({ cls := "TeethForCoins", name := "isMoney", desc := "(I)Z" } : Jvm.MethodName)) ∈ TB := tb_t (tl_3 48 rfl) rfl
theorem w3_49 : (Jvm.Cond.code ({ cls := "TeethForCoins", name := "isMoney", desc := "(I)Z" } : Jvm.MethodName) prog_1_method_38_code (1 : Nat) (Option.some Jvm.ClassFile.FieldType.boolean)) ∈ TB := tb_t (tl_3 49 rfl) rfl
theorem w3_52 : (Jvm.Cond.instanceMethod ({ cls := "TeethForCoins$Rates", name := "gotFor", desc := "(II)I" } : Jvm.MethodName)) ∈ TB := tb_t (tl_3 52 rfl) rfl
theorem w3_53 : (Jvm.Cond.code ({ cls := "TeethForCoins$Rates", name := "gotFor", desc := "(II)I" } : Jvm.MethodName) prog_5_method_2_code (4 : Nat) (Option.some Jvm.ClassFile.FieldType.int)) ∈ TB := tb_t (tl_3 53 rfl) rfl
theorem w3_56 : (Jvm.Cond.instanceMethod ({ cls := "TeethForCoins$Rates", name := "givenFor", desc := "(II)I" } : Jvm.MethodName)) ∈ TB := tb_t (tl_3 56 rfl) rfl
theorem w3_57 : (Jvm.Cond.code ({ cls := "TeethForCoins$Rates", name := "givenFor", desc := "(II)I" } : Jvm.MethodName) prog_5_method_3_code (4 : Nat) (Option.some Jvm.ClassFile.FieldType.int)) ∈ TB := tb_t (tl_3 57 rfl) rfl
theorem w3_60 : (Jvm.Cond.instanceMethod ({ cls := "TeethForCoins$Rates", name := "put", desc := "(IIII)V" } : Jvm.MethodName)) ∈ TB := tb_t (tl_3 60 rfl) rfl
theorem w3_61 : (Jvm.Cond.code ({ cls := "TeethForCoins$Rates", name := "put", desc := "(IIII)V" } : Jvm.MethodName) prog_5_method_4_code (6 : Nat) (Option.none : Option Jvm.ClassFile.FieldType)) ∈ TB := tb_t (tl_3 61 rfl) rfl
theorem w3_62 : (Jvm.Cond.methodLink "TeethForCoinsLaw" (126 : Nat) ({ cls := "TeethForCoins", name := "ring", desc := "(Z)J" } : Jvm.MethodName)) ∈ TB := tb_t (tl_3 62 rfl) rfl
theorem w3_63 : (Jvm.Cond.instanceMethod ({ cls := "TeethForCoins", name := "ring", desc := "(Z)J" } : Jvm.MethodName)) ∈ TB := tb_t (tl_3 63 rfl) rfl
theorem w3_64 : (Jvm.Cond.selects "TeethForCoins" ({ cls := "TeethForCoins", name := "ring", desc := "(Z)J" } : Jvm.MethodName) ({ cls := "TeethForCoins", name := "ring", desc := "(Z)J" } : Jvm.MethodName)) ∈ TB := tb_t (tl_3 64 rfl) rfl
theorem w3_65 : (Jvm.Cond.code ({ cls := "TeethForCoins", name := "ring", desc := "(Z)J" } : Jvm.MethodName) prog_1_method_27_code (2 : Nat) (Option.some Jvm.ClassFile.FieldType.long)) ∈ TB := tb_t (tl_3 65 rfl) rfl
theorem w3_66 : (Jvm.Cond.methodLink "TeethForCoins" (260 : Nat) ({ cls := "TeethForCoins", name := "seekRing", desc := "()V" } : Jvm.MethodName)) ∈ TB := tb_t (tl_3 66 rfl) rfl
theorem w3_68 : (Jvm.Cond.instanceMethod ({ cls := "TeethForCoins", name := "seekRing", desc := "()V" } : Jvm.MethodName)) ∈ TB := tb_t (tl_3 68 rfl) rfl
theorem w3_69 : (Jvm.Cond.code ({ cls := "TeethForCoins", name := "seekRing", desc := "()V" } : Jvm.MethodName) prog_1_method_56_code (4 : Nat) (Option.none : Option Jvm.ClassFile.FieldType)) ∈ TB := tb_t (tl_3 69 rfl) rfl
theorem w3_72 : (Jvm.Cond.instanceMethod ({ cls := "TeethForCoins$Ring", name := "clear", desc := "()V" } : Jvm.MethodName)) ∈ TB := tb_t (tl_3 72 rfl) rfl
theorem w3_73 : (Jvm.Cond.code ({ cls := "TeethForCoins$Ring", name := "clear", desc := "()V" } : Jvm.MethodName) prog_6_method_2_code (1 : Nat) (Option.none : Option Jvm.ClassFile.FieldType)) ∈ TB := tb_t (tl_3 73 rfl) rfl
theorem w3_75 : (Jvm.Cond.static ({ cls := "TeethForCoins$Ring", name := "isRing", desc := "(II)Z" } : Jvm.MethodName)) ∈ TB := tb_t (tl_3 75 rfl) rfl
theorem w3_76 : (Jvm.Cond.code ({ cls := "TeethForCoins$Ring", name := "isRing", desc := "(II)Z" } : Jvm.MethodName) prog_6_method_4_code (6 : Nat) (Option.some Jvm.ClassFile.FieldType.boolean)) ∈ TB := tb_t (tl_3 76 rfl) rfl
theorem w3_77 : (Jvm.Cond.methodLink "TeethForCoins$Ring" (23 : Nat) ({ cls := "TeethForCoins$Ring", name := "moneyAt", desc := "(III)I" } : Jvm.MethodName)) ∈ TB := tb_t (tl_3 77 rfl) rfl
theorem w3_78 : (Jvm.Cond.static ({ cls := "TeethForCoins$Ring", name := "moneyAt", desc := "(III)I" } : Jvm.MethodName)) ∈ TB := tb_t (tl_3 78 rfl) rfl
theorem w3_79 : (Jvm.Cond.code ({ cls := "TeethForCoins$Ring", name := "moneyAt", desc := "(III)I" } : Jvm.MethodName) prog_6_method_3_code (3 : Nat) (Option.some Jvm.ClassFile.FieldType.int)) ∈ TB := tb_t (tl_3 79 rfl) rfl
theorem w3_82 : (Jvm.Cond.instanceMethod ({ cls := "TeethForCoins$Ring", name := "offer", desc := "(LTeethForCoins$Rates;II)V" } : Jvm.MethodName)) ∈ TB := tb_t (tl_3 82 rfl) rfl
theorem w3_83 : (Jvm.Cond.code ({ cls := "TeethForCoins$Ring", name := "offer", desc := "(LTeethForCoins$Rates;II)V" } : Jvm.MethodName) prog_6_method_5_code (11 : Nat) (Option.none : Option Jvm.ClassFile.FieldType)) ∈ TB := tb_t (tl_3 83 rfl) rfl
theorem w3_86 : (Jvm.Cond.methodLink "TeethForCoinsLaw" (131 : Nat) ({ cls := "TeethForCoins", name := "ringAt", desc := "(I)I" } : Jvm.MethodName)) ∈ TB := tb_t (tl_3 86 rfl) rfl
theorem w3_87 : (Jvm.Cond.instanceMethod ({ cls := "TeethForCoins", name := "ringAt", desc := "(I)I" } : Jvm.MethodName)) ∈ TB := tb_t (tl_3 87 rfl) rfl
theorem w3_88 : (Jvm.Cond.selects "TeethForCoins" ({ cls := "TeethForCoins", name := "ringAt", desc := "(I)I" } : Jvm.MethodName) ({ cls := "TeethForCoins", name := "ringAt", desc := "(I)I" } : Jvm.MethodName)) ∈ TB := tb_t (tl_3 88 rfl) rfl
theorem w3_89 : (Jvm.Cond.code ({ cls := "TeethForCoins", name := "ringAt", desc := "(I)I" } : Jvm.MethodName) prog_1_method_28_code (2 : Nat) (Option.some Jvm.ClassFile.FieldType.int)) ∈ TB := tb_t (tl_3 89 rfl) rfl
theorem w3_91 : (Jvm.Cond.methodLink "TeethForCoinsLaw" (135 : Nat) ({ cls := "TeethForCoins", name := "should", desc := "(II)I" } : Jvm.MethodName)) ∈ TB := tb_t (tl_3 91 rfl) rfl
theorem w3_92 : (Jvm.Cond.instanceMethod ({ cls := "TeethForCoins", name := "should", desc := "(II)I" } : Jvm.MethodName)) ∈ TB := tb_t (tl_3 92 rfl) rfl
theorem w3_93 : (Jvm.Cond.selects "TeethForCoins" ({ cls := "TeethForCoins", name := "should", desc := "(II)I" } : Jvm.MethodName) ({ cls := "TeethForCoins", name := "should", desc := "(II)I" } : Jvm.MethodName)) ∈ TB := tb_t (tl_3 93 rfl) rfl
theorem w3_94 : (Jvm.Cond.code ({ cls := "TeethForCoins", name := "should", desc := "(II)I" } : Jvm.MethodName) prog_1_method_29_code (4 : Nat) (Option.some Jvm.ClassFile.FieldType.int)) ∈ TB := tb_t (tl_3 94 rfl) rfl
theorem w3_95 : (Jvm.Cond.methodLink "TeethForCoinsLaw" (139 : Nat) ({ cls := "TeethForCoins", name := "stolen", desc := "()I" } : Jvm.MethodName)) ∈ TB := tb_t (tl_3 95 rfl) rfl
theorem w3_96 : (Jvm.Cond.instanceMethod ({ cls := "TeethForCoins", name := "stolen", desc := "()I" } : Jvm.MethodName)) ∈ TB := tb_t (tl_3 96 rfl) rfl
theorem w3_97 : (Jvm.Cond.selects "TeethForCoins" ({ cls := "TeethForCoins", name := "stolen", desc := "()I" } : Jvm.MethodName) ({ cls := "TeethForCoins", name := "stolen", desc := "()I" } : Jvm.MethodName)) ∈ TB := tb_t (tl_3 97 rfl) rfl
theorem w3_98 : (Jvm.Cond.code ({ cls := "TeethForCoins", name := "stolen", desc := "()I" } : Jvm.MethodName) prog_1_method_30_code (3 : Nat) (Option.some Jvm.ClassFile.FieldType.int)) ∈ TB := tb_t (tl_3 98 rfl) rfl
theorem w3_101 : (Jvm.Cond.instanceMethod ({ cls := "TeethForCoins$Teeth", name := "wearTooMuch", desc := "(I)I" } : Jvm.MethodName)) ∈ TB := tb_t (tl_3 101 rfl) rfl
theorem w3_102 : (Jvm.Cond.code ({ cls := "TeethForCoins$Teeth", name := "wearTooMuch", desc := "(I)I" } : Jvm.MethodName) prog_8_method_10_code (2 : Nat) (Option.some Jvm.ClassFile.FieldType.int)) ∈ TB := tb_t (tl_3 102 rfl) rfl
theorem w3_103 : (Jvm.Cond.methodLink "TeethForCoins$Teeth" (36 : Nat) ({ cls := "java/lang/Math", name := "max", desc := "(II)I" } : Jvm.MethodName)) ∈ TB := tb_t (tl_3 103 rfl) rfl
theorem w3_104 : (Jvm.Cond.methodLink "TeethForCoinsLaw" (143 : Nat) ({ cls := "TeethForCoins", name := "thief", desc := "()I" } : Jvm.MethodName)) ∈ TB := tb_t (tl_3 104 rfl) rfl
theorem w3_105 : (Jvm.Cond.instanceMethod ({ cls := "TeethForCoins", name := "thief", desc := "()I" } : Jvm.MethodName)) ∈ TB := tb_t (tl_3 105 rfl) rfl
theorem w3_106 : (Jvm.Cond.selects "TeethForCoins" ({ cls := "TeethForCoins", name := "thief", desc := "()I" } : Jvm.MethodName) ({ cls := "TeethForCoins", name := "thief", desc := "()I" } : Jvm.MethodName)) ∈ TB := tb_t (tl_3 106 rfl) rfl
theorem w3_107 : (Jvm.Cond.code ({ cls := "TeethForCoins", name := "thief", desc := "()I" } : Jvm.MethodName) prog_1_method_31_code (5 : Nat) (Option.some Jvm.ClassFile.FieldType.int)) ∈ TB := tb_t (tl_3 107 rfl) rfl
theorem w3_110 : (Jvm.Cond.instanceMethod ({ cls := "TeethForCoins$Teeth", name := "wearTooMuchOf", desc := "(I)I" } : Jvm.MethodName)) ∈ TB := tb_t (tl_3 110 rfl) rfl
theorem w3_111 : (Jvm.Cond.code ({ cls := "TeethForCoins$Teeth", name := "wearTooMuchOf", desc := "(I)I" } : Jvm.MethodName) prog_8_method_11_code (4 : Nat) (Option.some Jvm.ClassFile.FieldType.int)) ∈ TB := tb_t (tl_3 111 rfl) rfl
theorem w3_112 : (Jvm.Cond.methodLink "TeethForCoins$Teeth" (39 : Nat) ({ cls := "TeethForCoins$Teeth", name := "wearTooMuch", desc := "(I)I" } : Jvm.MethodName)) ∈ TB := tb_t (tl_3 112 rfl) rfl
theorem w3_113 : (Jvm.Cond.methodLink "TeethForCoinsLaw" (147 : Nat) ({ cls := "TeethForCoins", name := "keep", desc := "(I)I" } : Jvm.MethodName)) ∈ TB := tb_t (tl_3 113 rfl) rfl
theorem w3_114 : (Jvm.Cond.instanceMethod ({ cls := "TeethForCoins", name := "keep", desc := "(I)I" } : Jvm.MethodName)) ∈ TB := tb_t (tl_3 114 rfl) rfl
theorem w3_115 : (Jvm.Cond.selects "TeethForCoins" ({ cls := "TeethForCoins", name := "keep", desc := "(I)I" } : Jvm.MethodName) ({ cls := "TeethForCoins", name := "keep", desc := "(I)I" } : Jvm.MethodName)) ∈ TB := tb_t (tl_3 115 rfl) rfl
theorem w3_116 : (Jvm.Cond.code ({ cls := "TeethForCoins", name := "keep", desc := "(I)I" } : Jvm.MethodName) prog_1_method_32_code (2 : Nat) (Option.some Jvm.ClassFile.FieldType.int)) ∈ TB := tb_t (tl_3 116 rfl) rfl
theorem w3_117 : (Jvm.Cond.methodLink "TeethForCoins" (285 : Nat) ({ cls := "TeethForCoins", name := "isSlot", desc := "(I)Z" } : Jvm.MethodName)) ∈ TB := tb_t (tl_3 117 rfl) rfl
theorem w3_119 : (Jvm.Cond.instanceMethod ({ cls := "TeethForCoins", name := "isSlot", desc := "(I)Z" } : Jvm.MethodName)) ∈ TB := tb_t (tl_3 119 rfl) rfl
theorem w3_120 : (Jvm.Cond.code ({ cls := "TeethForCoins", name := "isSlot", desc := "(I)Z" } : Jvm.MethodName) prog_1_method_36_code (2 : Nat) (Option.some Jvm.ClassFile.FieldType.boolean)) ∈ TB := tb_t (tl_3 120 rfl) rfl
theorem w3_123 : (Jvm.Cond.instanceMethod ({ cls := "TeethForCoins$Slot", name := "takeIn", desc := "(LTeethForCoins$Teeth;LTeethForCoins$Bargains;LTeethForCoins$Rates;)V" } : Jvm.MethodName)) ∈ TB := tb_t (tl_3 123 rfl) rfl
theorem w3_124 : (Jvm.Cond.code ({ cls := "TeethForCoins$Slot", name := "takeIn", desc := "(LTeethForCoins$Teeth;LTeethForCoins$Bargains;LTeethForCoins$Rates;)V" } : Jvm.MethodName) prog_7_method_2_code (4 : Nat) (Option.none : Option Jvm.ClassFile.FieldType)) ∈ TB := tb_t (tl_3 124 rfl) rfl
theorem w3_128 : (Jvm.Cond.instanceMethod ({ cls := "TeethForCoins$Bargains", name := "copyFrom", desc := "(LTeethForCoins$Bargains;)V" } : Jvm.MethodName)) ∈ TB := tb_t (tl_3 128 rfl) rfl
theorem w3_129 : (Jvm.Cond.code ({ cls := "TeethForCoins$Bargains", name := "copyFrom", desc := "(LTeethForCoins$Bargains;)V" } : Jvm.MethodName) prog_2_method_4_code (3 : Nat) (Option.none : Option Jvm.ClassFile.FieldType)) ∈ TB := tb_t (tl_3 129 rfl) rfl
theorem w3_132 : (Jvm.Cond.instanceMethod ({ cls := "TeethForCoins$Rates", name := "copyFrom", desc := "(LTeethForCoins$Rates;)V" } : Jvm.MethodName)) ∈ TB := tb_t (tl_3 132 rfl) rfl
theorem w3_133 : (Jvm.Cond.code ({ cls := "TeethForCoins$Rates", name := "copyFrom", desc := "(LTeethForCoins$Rates;)V" } : Jvm.MethodName) prog_5_method_5_code (2 : Nat) (Option.none : Option Jvm.ClassFile.FieldType)) ∈ TB := tb_t (tl_3 133 rfl) rfl
theorem w3_134 : (Jvm.Cond.methodLink "TeethForCoins$Rates" (24 : Nat) ({ cls := "java/lang/Math", name := "min", desc := "(II)I" } : Jvm.MethodName)) ∈ TB := tb_t (tl_3 134 rfl) rfl
theorem w3_135 : (Jvm.Cond.methodLink "TeethForCoins$Rates" (30 : Nat) ({ cls := "java/lang/System", name := "arraycopy", desc := "(Ljava/lang/Object;ILjava/lang/Object;II)V" } : Jvm.MethodName)) ∈ TB := tb_t (tl_3 135 rfl) rfl
theorem w3_136 : (Jvm.Cond.methodLink "TeethForCoinsLaw" (151 : Nat) ({ cls := "TeethForCoins", name := "again", desc := "(I)I" } : Jvm.MethodName)) ∈ TB := tb_t (tl_3 136 rfl) rfl
theorem w3_137 : (Jvm.Cond.instanceMethod ({ cls := "TeethForCoins", name := "again", desc := "(I)I" } : Jvm.MethodName)) ∈ TB := tb_t (tl_3 137 rfl) rfl
theorem w3_138 : (Jvm.Cond.selects "TeethForCoins" ({ cls := "TeethForCoins", name := "again", desc := "(I)I" } : Jvm.MethodName) ({ cls := "TeethForCoins", name := "again", desc := "(I)I" } : Jvm.MethodName)) ∈ TB := tb_t (tl_3 138 rfl) rfl
theorem w3_139 : (Jvm.Cond.code ({ cls := "TeethForCoins", name := "again", desc := "(I)I" } : Jvm.MethodName) prog_1_method_33_code (2 : Nat) (Option.some Jvm.ClassFile.FieldType.int)) ∈ TB := tb_t (tl_3 139 rfl) rfl
theorem w3_142 : (Jvm.Cond.instanceMethod ({ cls := "TeethForCoins$Slot", name := "giveOut", desc := "(LTeethForCoins$Teeth;LTeethForCoins$Bargains;LTeethForCoins$Rates;)V" } : Jvm.MethodName)) ∈ TB := tb_t (tl_3 142 rfl) rfl
theorem w3_143 : (Jvm.Cond.code ({ cls := "TeethForCoins$Slot", name := "giveOut", desc := "(LTeethForCoins$Teeth;LTeethForCoins$Bargains;LTeethForCoins$Rates;)V" } : Jvm.MethodName) prog_7_method_3_code (4 : Nat) (Option.none : Option Jvm.ClassFile.FieldType)) ∈ TB := tb_t (tl_3 143 rfl) rfl
theorem w3_150 : (Jvm.Cond.fieldLink "TeethForCoinsModel" (108 : Nat) "TeethForCoinsModel" "thrown" "I") ∈ TB := tb_t (tl_3 150 rfl) rfl
theorem w3_151 : (Jvm.Cond.fieldLink "TeethForCoinsModel" (7 : Nat) "TeethForCoinsModel" "text" "[I") ∈ TB := tb_t (tl_3 151 rfl) rfl
theorem w3_152 : (Jvm.Cond.fieldLink "TeethForCoinsModel" (122 : Nat) "TeethForCoinsModel" "textSize" "I") ∈ TB := tb_t (tl_3 152 rfl) rfl
theorem w3_153 : (Jvm.Cond.fieldLink "TeethForCoinsModel" (125 : Nat) "TeethForCoinsModel" "place" "I") ∈ TB := tb_t (tl_3 153 rfl) rfl
theorem w3_154 : (Jvm.Cond.fieldLink "TeethForCoinsModel" (13 : Nat) "TeethForCoinsModel" "loss" "I") ∈ TB := tb_t (tl_3 154 rfl) rfl
theorem w3_155 : (Jvm.Cond.fieldLink "TeethForCoinsModel" (17 : Nat) "TeethForCoinsModel" "times" "I") ∈ TB := tb_t (tl_3 155 rfl) rfl
theorem w3_156 : (Jvm.Cond.fieldLink "TeethForCoinsModel" (111 : Nat) "TeethForCoinsModel" "teeth" "I") ∈ TB := tb_t (tl_3 156 rfl) rfl
theorem w3_157 : (Jvm.Cond.fieldLink "TeethForCoinsModel" (20 : Nat) "TeethForCoinsModel" "size" "[I") ∈ TB := tb_t (tl_3 157 rfl) rfl
theorem w3_158 : (Jvm.Cond.fieldLink "TeethForCoinsModel" (23 : Nat) "TeethForCoinsModel" "left" "[Z") ∈ TB := tb_t (tl_3 158 rfl) rfl
theorem w3_159 : (Jvm.Cond.fieldLink "TeethForCoinsModel" (27 : Nat) "TeethForCoinsModel" "wear" "[I") ∈ TB := tb_t (tl_3 159 rfl) rfl
theorem w3_160 : (Jvm.Cond.fieldLink "TeethForCoinsModel" (30 : Nat) "TeethForCoinsModel" "owner" "[I") ∈ TB := tb_t (tl_3 160 rfl) rfl
theorem w3_161 : (Jvm.Cond.fieldLink "TeethForCoinsModel" (33 : Nat) "TeethForCoinsModel" "fake" "[Z") ∈ TB := tb_t (tl_3 161 rfl) rfl
theorem w3_162 : (Jvm.Cond.fieldLink "TeethForCoinsModel" (36 : Nat) "TeethForCoinsModel" "should" "[I") ∈ TB := tb_t (tl_3 162 rfl) rfl
theorem w3_163 : (Jvm.Cond.fieldLink "TeethForCoinsModel" (39 : Nat) "TeethForCoinsModel" "traces" "[I") ∈ TB := tb_t (tl_3 163 rfl) rfl
theorem w3_164 : (Jvm.Cond.fieldLink "TeethForCoinsModel" (42 : Nat) "TeethForCoinsModel" "trace" "[I") ∈ TB := tb_t (tl_3 164 rfl) rfl
theorem w3_165 : (Jvm.Cond.fieldLink "TeethForCoinsModel" (162 : Nat) "TeethForCoinsModel" "goods" "I") ∈ TB := tb_t (tl_3 165 rfl) rfl
theorem w3_166 : (Jvm.Cond.fieldLink "TeethForCoinsModel" (45 : Nat) "TeethForCoinsModel" "price" "[I") ∈ TB := tb_t (tl_3 166 rfl) rfl
theorem w3_167 : (Jvm.Cond.fieldLink "TeethForCoinsModel" (48 : Nat) "TeethForCoinsModel" "use" "[I") ∈ TB := tb_t (tl_3 167 rfl) rfl
theorem w3_168 : (Jvm.Cond.fieldLink "TeethForCoinsModel" (150 : Nat) "TeethForCoinsModel" "readLoss" "I") ∈ TB := tb_t (tl_3 168 rfl) rfl
theorem w3_169 : (Jvm.Cond.fieldLink "TeethForCoinsModel" (153 : Nat) "TeethForCoinsModel" "readTimes" "I") ∈ TB := tb_t (tl_3 169 rfl) rfl
theorem w3_170 : (Jvm.Cond.fieldLink "TeethForCoinsModel" (136 : Nat) "TeethForCoinsModel" "readTeeth" "I") ∈ TB := tb_t (tl_3 170 rfl) rfl
theorem w3_171 : (Jvm.Cond.fieldLink "TeethForCoinsModel" (139 : Nat) "TeethForCoinsModel" "readGoods" "I") ∈ TB := tb_t (tl_3 171 rfl) rfl
theorem w3_172 : (Jvm.Cond.fieldLink "TeethForCoinsModel" (51 : Nat) "TeethForCoinsModel" "readSize" "[I") ∈ TB := tb_t (tl_3 172 rfl) rfl
theorem w3_173 : (Jvm.Cond.fieldLink "TeethForCoinsModel" (54 : Nat) "TeethForCoinsModel" "readLeft" "[Z") ∈ TB := tb_t (tl_3 173 rfl) rfl
theorem w3_174 : (Jvm.Cond.fieldLink "TeethForCoinsModel" (57 : Nat) "TeethForCoinsModel" "readWear" "[I") ∈ TB := tb_t (tl_3 174 rfl) rfl
theorem w3_175 : (Jvm.Cond.fieldLink "TeethForCoinsModel" (60 : Nat) "TeethForCoinsModel" "readOwner" "[I") ∈ TB := tb_t (tl_3 175 rfl) rfl
theorem w3_176 : (Jvm.Cond.fieldLink "TeethForCoinsModel" (63 : Nat) "TeethForCoinsModel" "readFake" "[Z") ∈ TB := tb_t (tl_3 176 rfl) rfl
theorem w3_177 : (Jvm.Cond.fieldLink "TeethForCoinsModel" (66 : Nat) "TeethForCoinsModel" "readPrice" "[I") ∈ TB := tb_t (tl_3 177 rfl) rfl
theorem w3_178 : (Jvm.Cond.fieldLink "TeethForCoinsModel" (69 : Nat) "TeethForCoinsModel" "readUse" "[I") ∈ TB := tb_t (tl_3 178 rfl) rfl
theorem w3_179 : (Jvm.Cond.fieldLink "TeethForCoinsModel" (72 : Nat) "TeethForCoinsModel" "book" "[I") ∈ TB := tb_t (tl_3 179 rfl) rfl
theorem w3_180 : (Jvm.Cond.fieldLink "TeethForCoinsModel" (169 : Nat) "TeethForCoinsModel" "bargains" "I") ∈ TB := tb_t (tl_3 180 rfl) rfl
theorem w3_181 : (Jvm.Cond.fieldLink "TeethForCoinsModel" (75 : Nat) "TeethForCoinsModel" "above" "[I") ∈ TB := tb_t (tl_3 181 rfl) rfl
theorem w3_182 : (Jvm.Cond.fieldLink "TeethForCoinsModel" (78 : Nat) "TeethForCoinsModel" "below" "[I") ∈ TB := tb_t (tl_3 182 rfl) rfl
theorem w3_183 : (Jvm.Cond.fieldLink "TeethForCoinsModel" (81 : Nat) "TeethForCoinsModel" "keptPage" "[I") ∈ TB := tb_t (tl_3 183 rfl) rfl
theorem w3_184 : (Jvm.Cond.fieldLink "TeethForCoinsModel" (84 : Nat) "TeethForCoinsModel" "keptMore" "[I") ∈ TB := tb_t (tl_3 184 rfl) rfl
theorem w3_185 : (Jvm.Cond.fieldLink "TeethForCoinsModel" (87 : Nat) "TeethForCoinsModel" "keptBook" "[I") ∈ TB := tb_t (tl_3 185 rfl) rfl
theorem w3_186 : (Jvm.Cond.fieldLink "TeethForCoinsModel" (90 : Nat) "TeethForCoinsModel" "keptRates" "[I") ∈ TB := tb_t (tl_3 186 rfl) rfl
theorem w3_187 : (Jvm.Cond.fieldLink "TeethForCoinsModel" (93 : Nat) "TeethForCoinsModel" "isKept" "[Z") ∈ TB := tb_t (tl_3 187 rfl) rfl
theorem w3_188 : (Jvm.Cond.fieldLink "TeethForCoinsModel" (96 : Nat) "TeethForCoinsModel" "keptBargains" "[I") ∈ TB := tb_t (tl_3 188 rfl) rfl
theorem w3_189 : (Jvm.Cond.fieldLink "TeethForCoinsModel" (205 : Nat) "TeethForCoinsModel" "paidSet" "I") ∈ TB := tb_t (tl_3 189 rfl) rfl
theorem w3_190 : (Jvm.Cond.fieldLink "TeethForCoinsModel" (208 : Nat) "TeethForCoinsModel" "changeSet" "I") ∈ TB := tb_t (tl_3 190 rfl) rfl
theorem w3_191 : (Jvm.Cond.fieldLink "TeethForCoinsModel" (234 : Nat) "TeethForCoinsModel" "bestSet" "I") ∈ TB := tb_t (tl_3 191 rfl) rfl
theorem w3_192 : (Jvm.Cond.fieldLink "TeethForCoinsModel" (99 : Nat) "TeethForCoinsModel" "ring" "[I") ∈ TB := tb_t (tl_3 192 rfl) rfl
theorem w3_193 : (Jvm.Cond.fieldLink "TeethForCoinsModel" (102 : Nat) "TeethForCoinsModel" "tried" "[I") ∈ TB := tb_t (tl_3 193 rfl) rfl
theorem w3_194 : (Jvm.Cond.fieldLink "TeethForCoinsModel" (289 : Nat) "TeethForCoinsModel" "ringMany" "I") ∈ TB := tb_t (tl_3 194 rfl) rfl
theorem w3_195 : (Jvm.Cond.fieldLink "TeethForCoinsModel" (279 : Nat) "TeethForCoinsModel" "ringUp" "J") ∈ TB := tb_t (tl_3 195 rfl) rfl
theorem w3_196 : (Jvm.Cond.fieldLink "TeethForCoinsModel" (283 : Nat) "TeethForCoinsModel" "ringDown" "J") ∈ TB := tb_t (tl_3 196 rfl) rfl
theorem w3_197 : (Jvm.Cond.fieldLink "TeethForCoinsModel" (105 : Nat) "TeethForCoinsModel" "can" "[Z") ∈ TB := tb_t (tl_3 197 rfl) rfl
theorem w3_198 : (Jvm.Cond.lays "TeethForCoinsModel" "TeethForCoinsModel" "thrown" "I") ∈ TB := tb_t (tl_3 198 rfl) rfl
theorem w3_200 : (Jvm.Cond.laysFinal "TeethForCoinsModel" "TeethForCoinsModel" "text" "[I") ∈ TB := tb_t (tl_3 200 rfl) rfl
theorem w3_202 : (Jvm.Cond.lays "TeethForCoinsModel" "TeethForCoinsModel" "textSize" "I") ∈ TB := tb_t (tl_3 202 rfl) rfl
theorem w3_204 : (Jvm.Cond.lays "TeethForCoinsModel" "TeethForCoinsModel" "place" "I") ∈ TB := tb_t (tl_3 204 rfl) rfl
theorem w3_206 : (Jvm.Cond.lays "TeethForCoinsModel" "TeethForCoinsModel" "loss" "I") ∈ TB := tb_t (tl_3 206 rfl) rfl
theorem w3_208 : (Jvm.Cond.lays "TeethForCoinsModel" "TeethForCoinsModel" "times" "I") ∈ TB := tb_t (tl_3 208 rfl) rfl
theorem w3_210 : (Jvm.Cond.lays "TeethForCoinsModel" "TeethForCoinsModel" "teeth" "I") ∈ TB := tb_t (tl_3 210 rfl) rfl
theorem w3_212 : (Jvm.Cond.laysFinal "TeethForCoinsModel" "TeethForCoinsModel" "size" "[I") ∈ TB := tb_t (tl_3 212 rfl) rfl
theorem w3_214 : (Jvm.Cond.laysFinal "TeethForCoinsModel" "TeethForCoinsModel" "left" "[Z") ∈ TB := tb_t (tl_3 214 rfl) rfl
theorem w3_216 : (Jvm.Cond.laysFinal "TeethForCoinsModel" "TeethForCoinsModel" "wear" "[I") ∈ TB := tb_t (tl_3 216 rfl) rfl
theorem w3_218 : (Jvm.Cond.laysFinal "TeethForCoinsModel" "TeethForCoinsModel" "owner" "[I") ∈ TB := tb_t (tl_3 218 rfl) rfl
theorem w3_220 : (Jvm.Cond.laysFinal "TeethForCoinsModel" "TeethForCoinsModel" "fake" "[Z") ∈ TB := tb_t (tl_3 220 rfl) rfl
theorem w3_222 : (Jvm.Cond.laysFinal "TeethForCoinsModel" "TeethForCoinsModel" "should" "[I") ∈ TB := tb_t (tl_3 222 rfl) rfl
theorem w3_224 : (Jvm.Cond.laysFinal "TeethForCoinsModel" "TeethForCoinsModel" "traces" "[I") ∈ TB := tb_t (tl_3 224 rfl) rfl
theorem w3_226 : (Jvm.Cond.laysFinal "TeethForCoinsModel" "TeethForCoinsModel" "trace" "[I") ∈ TB := tb_t (tl_3 226 rfl) rfl
theorem w3_228 : (Jvm.Cond.lays "TeethForCoinsModel" "TeethForCoinsModel" "goods" "I") ∈ TB := tb_t (tl_3 228 rfl) rfl
theorem w3_230 : (Jvm.Cond.laysFinal "TeethForCoinsModel" "TeethForCoinsModel" "price" "[I") ∈ TB := tb_t (tl_3 230 rfl) rfl
theorem w3_232 : (Jvm.Cond.laysFinal "TeethForCoinsModel" "TeethForCoinsModel" "use" "[I") ∈ TB := tb_t (tl_3 232 rfl) rfl
theorem w3_234 : (Jvm.Cond.lays "TeethForCoinsModel" "TeethForCoinsModel" "readLoss" "I") ∈ TB := tb_t (tl_3 234 rfl) rfl
theorem w3_236 : (Jvm.Cond.lays "TeethForCoinsModel" "TeethForCoinsModel" "readTimes" "I") ∈ TB := tb_t (tl_3 236 rfl) rfl
theorem w3_238 : (Jvm.Cond.lays "TeethForCoinsModel" "TeethForCoinsModel" "readTeeth" "I") ∈ TB := tb_t (tl_3 238 rfl) rfl
theorem w4_0 : (Jvm.Cond.lays "TeethForCoinsModel" "TeethForCoinsModel" "readGoods" "I") ∈ TB := tb_t (tl_4 0 rfl) rfl
theorem w4_2 : (Jvm.Cond.laysFinal "TeethForCoinsModel" "TeethForCoinsModel" "readSize" "[I") ∈ TB := tb_t (tl_4 2 rfl) rfl
theorem w4_4 : (Jvm.Cond.laysFinal "TeethForCoinsModel" "TeethForCoinsModel" "readLeft" "[Z") ∈ TB := tb_t (tl_4 4 rfl) rfl
theorem w4_6 : (Jvm.Cond.laysFinal "TeethForCoinsModel" "TeethForCoinsModel" "readWear" "[I") ∈ TB := tb_t (tl_4 6 rfl) rfl
theorem w4_8 : (Jvm.Cond.laysFinal "TeethForCoinsModel" "TeethForCoinsModel" "readOwner" "[I") ∈ TB := tb_t (tl_4 8 rfl) rfl
theorem w4_10 : (Jvm.Cond.laysFinal "TeethForCoinsModel" "TeethForCoinsModel" "readFake" "[Z") ∈ TB := tb_t (tl_4 10 rfl) rfl
theorem w4_12 : (Jvm.Cond.laysFinal "TeethForCoinsModel" "TeethForCoinsModel" "readPrice" "[I") ∈ TB := tb_t (tl_4 12 rfl) rfl
theorem w4_14 : (Jvm.Cond.laysFinal "TeethForCoinsModel" "TeethForCoinsModel" "readUse" "[I") ∈ TB := tb_t (tl_4 14 rfl) rfl
theorem w4_16 : (Jvm.Cond.laysFinal "TeethForCoinsModel" "TeethForCoinsModel" "book" "[I") ∈ TB := tb_t (tl_4 16 rfl) rfl
theorem w4_18 : (Jvm.Cond.lays "TeethForCoinsModel" "TeethForCoinsModel" "bargains" "I") ∈ TB := tb_t (tl_4 18 rfl) rfl
theorem w4_20 : (Jvm.Cond.laysFinal "TeethForCoinsModel" "TeethForCoinsModel" "above" "[I") ∈ TB := tb_t (tl_4 20 rfl) rfl
theorem w4_22 : (Jvm.Cond.laysFinal "TeethForCoinsModel" "TeethForCoinsModel" "below" "[I") ∈ TB := tb_t (tl_4 22 rfl) rfl
theorem w4_24 : (Jvm.Cond.laysFinal "TeethForCoinsModel" "TeethForCoinsModel" "keptPage" "[I") ∈ TB := tb_t (tl_4 24 rfl) rfl
theorem w4_26 : (Jvm.Cond.laysFinal "TeethForCoinsModel" "TeethForCoinsModel" "keptMore" "[I") ∈ TB := tb_t (tl_4 26 rfl) rfl
theorem w4_28 : (Jvm.Cond.laysFinal "TeethForCoinsModel" "TeethForCoinsModel" "keptBook" "[I") ∈ TB := tb_t (tl_4 28 rfl) rfl
theorem w4_30 : (Jvm.Cond.laysFinal "TeethForCoinsModel" "TeethForCoinsModel" "keptRates" "[I") ∈ TB := tb_t (tl_4 30 rfl) rfl
theorem w4_32 : (Jvm.Cond.laysFinal "TeethForCoinsModel" "TeethForCoinsModel" "isKept" "[Z") ∈ TB := tb_t (tl_4 32 rfl) rfl
theorem w4_34 : (Jvm.Cond.laysFinal "TeethForCoinsModel" "TeethForCoinsModel" "keptBargains" "[I") ∈ TB := tb_t (tl_4 34 rfl) rfl
theorem w4_36 : (Jvm.Cond.lays "TeethForCoinsModel" "TeethForCoinsModel" "paidSet" "I") ∈ TB := tb_t (tl_4 36 rfl) rfl
theorem w4_38 : (Jvm.Cond.lays "TeethForCoinsModel" "TeethForCoinsModel" "changeSet" "I") ∈ TB := tb_t (tl_4 38 rfl) rfl
theorem w4_40 : (Jvm.Cond.lays "TeethForCoinsModel" "TeethForCoinsModel" "bestSet" "I") ∈ TB := tb_t (tl_4 40 rfl) rfl
theorem w4_42 : (Jvm.Cond.laysFinal "TeethForCoinsModel" "TeethForCoinsModel" "ring" "[I") ∈ TB := tb_t (tl_4 42 rfl) rfl
theorem w4_44 : (Jvm.Cond.laysFinal "TeethForCoinsModel" "TeethForCoinsModel" "tried" "[I") ∈ TB := tb_t (tl_4 44 rfl) rfl
theorem w4_46 : (Jvm.Cond.lays "TeethForCoinsModel" "TeethForCoinsModel" "ringMany" "I") ∈ TB := tb_t (tl_4 46 rfl) rfl
theorem w4_48 : (Jvm.Cond.lays "TeethForCoinsModel" "TeethForCoinsModel" "ringUp" "J") ∈ TB := tb_t (tl_4 48 rfl) rfl
theorem w4_50 : (Jvm.Cond.lays "TeethForCoinsModel" "TeethForCoinsModel" "ringDown" "J") ∈ TB := tb_t (tl_4 50 rfl) rfl
theorem w4_52 : (Jvm.Cond.laysFinal "TeethForCoinsModel" "TeethForCoinsModel" "can" "[Z") ∈ TB := tb_t (tl_4 52 rfl) rfl
theorem w4_56 : (Jvm.Cond.methodLink "TeethForCoinsLaw" (19 : Nat) ({ cls := "TeethForCoinsModel", name := "write", desc := "(IJ)I" } : Jvm.MethodName)) ∈ TB := tb_t (tl_4 56 rfl) rfl
theorem w4_57 : (Jvm.Cond.instanceMethod ({ cls := "TeethForCoinsModel", name := "write", desc := "(IJ)I" } : Jvm.MethodName)) ∈ TB := tb_t (tl_4 57 rfl) rfl
theorem w4_58 : (Jvm.Cond.selects "TeethForCoinsModel" ({ cls := "TeethForCoinsModel", name := "write", desc := "(IJ)I" } : Jvm.MethodName) ({ cls := "TeethForCoinsModel", name := "write", desc := "(IJ)I" } : Jvm.MethodName)) ∈ TB := tb_t (tl_4 58 rfl) rfl
theorem w4_59 : (Jvm.Cond.code ({ cls := "TeethForCoinsModel", name := "write", desc := "(IJ)I" } : Jvm.MethodName) prog_11_method_8_code (5 : Nat) (Option.some Jvm.ClassFile.FieldType.int)) ∈ TB := tb_t (tl_4 59 rfl) rfl
theorem w4_60 : (Jvm.Cond.constantLong "TeethForCoinsModel" (120 : Nat) (8 : Int64)) ∈ TB := tb_t (tl_4 60 rfl) rfl
theorem w4_61 : (Jvm.Cond.methodLink "TeethForCoinsModel" (114 : Nat) ({ cls := "TeethForCoinsModel", name := "in", desc := "(JJJ)Z" } : Jvm.MethodName)) ∈ TB := tb_t (tl_4 61 rfl) rfl
theorem w4_62 : (Jvm.Cond.static ({ cls := "TeethForCoinsModel", name := "in", desc := "(JJJ)Z" } : Jvm.MethodName)) ∈ TB := tb_t (tl_4 62 rfl) rfl
theorem w4_63 : (Jvm.Cond.code ({ cls := "TeethForCoinsModel", name := "in", desc := "(JJJ)Z" } : Jvm.MethodName) prog_11_method_3_code (6 : Nat) (Option.some Jvm.ClassFile.FieldType.boolean)) ∈ TB := tb_t (tl_4 63 rfl) rfl
theorem w4_64 : (Jvm.Cond.methodLink "TeethForCoinsLaw" (24 : Nat) ({ cls := "TeethForCoinsModel", name := "wipe", desc := "()I" } : Jvm.MethodName)) ∈ TB := tb_t (tl_4 64 rfl) rfl
theorem w4_65 : (Jvm.Cond.instanceMethod ({ cls := "TeethForCoinsModel", name := "wipe", desc := "()I" } : Jvm.MethodName)) ∈ TB := tb_t (tl_4 65 rfl) rfl
theorem w4_66 : (Jvm.Cond.selects "TeethForCoinsModel" ({ cls := "TeethForCoinsModel", name := "wipe", desc := "()I" } : Jvm.MethodName) ({ cls := "TeethForCoinsModel", name := "wipe", desc := "()I" } : Jvm.MethodName)) ∈ TB := tb_t (tl_4 66 rfl) rfl
theorem w4_67 : (Jvm.Cond.code ({ cls := "TeethForCoinsModel", name := "wipe", desc := "()I" } : Jvm.MethodName) prog_11_method_9_code (2 : Nat) (Option.some Jvm.ClassFile.FieldType.int)) ∈ TB := tb_t (tl_4 67 rfl) rfl
theorem w4_68 : (Jvm.Cond.methodLink "TeethForCoinsLaw" (28 : Nat) ({ cls := "TeethForCoinsModel", name := "fault", desc := "()I" } : Jvm.MethodName)) ∈ TB := tb_t (tl_4 68 rfl) rfl
theorem w4_69 : (Jvm.Cond.instanceMethod ({ cls := "TeethForCoinsModel", name := "fault", desc := "()I" } : Jvm.MethodName)) ∈ TB := tb_t (tl_4 69 rfl) rfl
theorem w4_70 : (Jvm.Cond.selects "TeethForCoinsModel" ({ cls := "TeethForCoinsModel", name := "fault", desc := "()I" } : Jvm.MethodName) ({ cls := "TeethForCoinsModel", name := "fault", desc := "()I" } : Jvm.MethodName)) ∈ TB := tb_t (tl_4 70 rfl) rfl
theorem w4_71 : (Jvm.Cond.code ({ cls := "TeethForCoinsModel", name := "fault", desc := "()I" } : Jvm.MethodName) prog_11_method_16_code (1 : Nat) (Option.some Jvm.ClassFile.FieldType.int)) ∈ TB := tb_t (tl_4 71 rfl) rfl
theorem w4_72 : (Jvm.Cond.methodLink "TeethForCoinsModel" (159 : Nat) ({ cls := "TeethForCoinsModel", name := "readMarket", desc := "()I" } : Jvm.MethodName)) ∈ TB := tb_t (tl_4 72 rfl) rfl
theorem w4_74 : (Jvm.Cond.instanceMethod ({ cls := "TeethForCoinsModel", name := "readMarket", desc := "()I" } : Jvm.MethodName)) ∈ TB := tb_t (tl_4 74 rfl) rfl
theorem w4_75 : (Jvm.Cond.code ({ cls := "TeethForCoinsModel", name := "readMarket", desc := "()I" } : Jvm.MethodName) prog_11_method_15_code (1 : Nat) (Option.some Jvm.ClassFile.FieldType.int)) ∈ TB := tb_t (tl_4 75 rfl) rfl
theorem w4_76 : (Jvm.Cond.methodLink "TeethForCoinsModel" (128 : Nat) ({ cls := "TeethForCoinsModel", name := "figure", desc := "(II)I" } : Jvm.MethodName)) ∈ TB := tb_t (tl_4 76 rfl) rfl
theorem w4_78 : (Jvm.Cond.instanceMethod ({ cls := "TeethForCoinsModel", name := "figure", desc := "(II)I" } : Jvm.MethodName)) ∈ TB := tb_t (tl_4 78 rfl) rfl
theorem w4_79 : (Jvm.Cond.code ({ cls := "TeethForCoinsModel", name := "figure", desc := "(II)I" } : Jvm.MethodName) prog_11_method_10_code (3 : Nat) (Option.some Jvm.ClassFile.FieldType.int)) ∈ TB := tb_t (tl_4 79 rfl) rfl
theorem w4_80 : (Jvm.Cond.methodLink "TeethForCoinsModel" (156 : Nat) ({ cls := "TeethForCoinsModel", name := "readPart", desc := "()Z" } : Jvm.MethodName)) ∈ TB := tb_t (tl_4 80 rfl) rfl
theorem w4_82 : (Jvm.Cond.instanceMethod ({ cls := "TeethForCoinsModel", name := "readPart", desc := "()Z" } : Jvm.MethodName)) ∈ TB := tb_t (tl_4 82 rfl) rfl
theorem w4_83 : (Jvm.Cond.code ({ cls := "TeethForCoinsModel", name := "readPart", desc := "()Z" } : Jvm.MethodName) prog_11_method_14_code (4 : Nat) (Option.some Jvm.ClassFile.FieldType.boolean)) ∈ TB := tb_t (tl_4 83 rfl) rfl
theorem w4_84 : (Jvm.Cond.methodLink "TeethForCoinsModel" (142 : Nat) ({ cls := "TeethForCoinsModel", name := "readTooth", desc := "(Z)Z" } : Jvm.MethodName)) ∈ TB := tb_t (tl_4 84 rfl) rfl
theorem w4_86 : (Jvm.Cond.instanceMethod ({ cls := "TeethForCoinsModel", name := "readTooth", desc := "(Z)Z" } : Jvm.MethodName)) ∈ TB := tb_t (tl_4 86 rfl) rfl
theorem w4_87 : (Jvm.Cond.code ({ cls := "TeethForCoinsModel", name := "readTooth", desc := "(Z)Z" } : Jvm.MethodName) prog_11_method_12_code (6 : Nat) (Option.some Jvm.ClassFile.FieldType.boolean)) ∈ TB := tb_t (tl_4 87 rfl) rfl
theorem w4_88 : (Jvm.Cond.methodLink "TeethForCoinsModel" (132 : Nat) ({ cls := "TeethForCoinsModel", name := "side", desc := "()I" } : Jvm.MethodName)) ∈ TB := tb_t (tl_4 88 rfl) rfl
theorem w4_90 : (Jvm.Cond.instanceMethod ({ cls := "TeethForCoinsModel", name := "side", desc := "()I" } : Jvm.MethodName)) ∈ TB := tb_t (tl_4 90 rfl) rfl
theorem w4_91 : (Jvm.Cond.code ({ cls := "TeethForCoinsModel", name := "side", desc := "()I" } : Jvm.MethodName) prog_11_method_11_code (1 : Nat) (Option.some Jvm.ClassFile.FieldType.int)) ∈ TB := tb_t (tl_4 91 rfl) rfl
theorem w4_92 : (Jvm.Cond.methodLink "TeethForCoinsModel" (146 : Nat) ({ cls := "TeethForCoinsModel", name := "readGood", desc := "()Z" } : Jvm.MethodName)) ∈ TB := tb_t (tl_4 92 rfl) rfl
theorem w4_94 : (Jvm.Cond.instanceMethod ({ cls := "TeethForCoinsModel", name := "readGood", desc := "()Z" } : Jvm.MethodName)) ∈ TB := tb_t (tl_4 94 rfl) rfl
theorem w4_95 : (Jvm.Cond.code ({ cls := "TeethForCoinsModel", name := "readGood", desc := "()Z" } : Jvm.MethodName) prog_11_method_13_code (4 : Nat) (Option.some Jvm.ClassFile.FieldType.boolean)) ∈ TB := tb_t (tl_4 95 rfl) rfl
theorem w4_96 : (Jvm.Cond.methodLink "TeethForCoinsLaw" (32 : Nat) ({ cls := "TeethForCoinsModel", name := "market", desc := "()I" } : Jvm.MethodName)) ∈ TB := tb_t (tl_4 96 rfl) rfl
theorem w4_97 : (Jvm.Cond.instanceMethod ({ cls := "TeethForCoinsModel", name := "market", desc := "()I" } : Jvm.MethodName)) ∈ TB := tb_t (tl_4 97 rfl) rfl
theorem w4_98 : (Jvm.Cond.selects "TeethForCoinsModel" ({ cls := "TeethForCoinsModel", name := "market", desc := "()I" } : Jvm.MethodName) ({ cls := "TeethForCoinsModel", name := "market", desc := "()I" } : Jvm.MethodName)) ∈ TB := tb_t (tl_4 98 rfl) rfl
theorem w4_99 : (Jvm.Cond.code ({ cls := "TeethForCoinsModel", name := "market", desc := "()I" } : Jvm.MethodName) prog_11_method_18_code (2 : Nat) (Option.some Jvm.ClassFile.FieldType.int)) ∈ TB := tb_t (tl_4 99 rfl) rfl
theorem w4_100 : (Jvm.Cond.methodLink "TeethForCoinsModel" (165 : Nat) ({ cls := "TeethForCoinsModel", name := "come", desc := "(I)V" } : Jvm.MethodName)) ∈ TB := tb_t (tl_4 100 rfl) rfl
theorem w4_102 : (Jvm.Cond.instanceMethod ({ cls := "TeethForCoinsModel", name := "come", desc := "(I)V" } : Jvm.MethodName)) ∈ TB := tb_t (tl_4 102 rfl) rfl
theorem w4_103 : (Jvm.Cond.code ({ cls := "TeethForCoinsModel", name := "come", desc := "(I)V" } : Jvm.MethodName) prog_11_method_17_code (2 : Nat) (Option.none : Option Jvm.ClassFile.FieldType)) ∈ TB := tb_t (tl_4 103 rfl) rfl
theorem w4_104 : (Jvm.Cond.methodLink "TeethForCoinsLaw" (37 : Nat) ({ cls := "TeethForCoinsModel", name := "about", desc := "(I)I" } : Jvm.MethodName)) ∈ TB := tb_t (tl_4 104 rfl) rfl
theorem w4_105 : (Jvm.Cond.instanceMethod ({ cls := "TeethForCoinsModel", name := "about", desc := "(I)I" } : Jvm.MethodName)) ∈ TB := tb_t (tl_4 105 rfl) rfl
theorem w4_106 : (Jvm.Cond.selects "TeethForCoinsModel" ({ cls := "TeethForCoinsModel", name := "about", desc := "(I)I" } : Jvm.MethodName) ({ cls := "TeethForCoinsModel", name := "about", desc := "(I)I" } : Jvm.MethodName)) ∈ TB := tb_t (tl_4 106 rfl) rfl
theorem w4_107 : (Jvm.Cond.code ({ cls := "TeethForCoinsModel", name := "about", desc := "(I)I" } : Jvm.MethodName) prog_11_method_20_code (2 : Nat) (Option.some Jvm.ClassFile.FieldType.int)) ∈ TB := tb_t (tl_4 107 rfl) rfl
theorem w4_108 : (Jvm.Cond.methodLink "TeethForCoinsModel" (172 : Nat) ({ cls := "TeethForCoinsModel", name := "fakes", desc := "()I" } : Jvm.MethodName)) ∈ TB := tb_t (tl_4 108 rfl) rfl
theorem w4_110 : (Jvm.Cond.instanceMethod ({ cls := "TeethForCoinsModel", name := "fakes", desc := "()I" } : Jvm.MethodName)) ∈ TB := tb_t (tl_4 110 rfl) rfl
theorem w4_111 : (Jvm.Cond.code ({ cls := "TeethForCoinsModel", name := "fakes", desc := "()I" } : Jvm.MethodName) prog_11_method_19_code (3 : Nat) (Option.some Jvm.ClassFile.FieldType.int)) ∈ TB := tb_t (tl_4 111 rfl) rfl
theorem w4_112 : (Jvm.Cond.methodLink "TeethForCoinsLaw" (42 : Nat) ({ cls := "TeethForCoinsModel", name := "tooth", desc := "(II)I" } : Jvm.MethodName)) ∈ TB := tb_t (tl_4 112 rfl) rfl
theorem w4_113 : (Jvm.Cond.instanceMethod ({ cls := "TeethForCoinsModel", name := "tooth", desc := "(II)I" } : Jvm.MethodName)) ∈ TB := tb_t (tl_4 113 rfl) rfl
theorem w4_114 : (Jvm.Cond.selects "TeethForCoinsModel" ({ cls := "TeethForCoinsModel", name := "tooth", desc := "(II)I" } : Jvm.MethodName) ({ cls := "TeethForCoinsModel", name := "tooth", desc := "(II)I" } : Jvm.MethodName)) ∈ TB := tb_t (tl_4 114 rfl) rfl
theorem w4_115 : (Jvm.Cond.code ({ cls := "TeethForCoinsModel", name := "tooth", desc := "(II)I" } : Jvm.MethodName) prog_11_method_23_code (3 : Nat) (Option.some Jvm.ClassFile.FieldType.int)) ∈ TB := tb_t (tl_4 115 rfl) rfl
theorem w4_116 : (Jvm.Cond.methodLink "TeethForCoinsModel" (178 : Nat) ({ cls := "TeethForCoinsModel", name := "noTooth", desc := "(I)Z" } : Jvm.MethodName)) ∈ TB := tb_t (tl_4 116 rfl) rfl
theorem w4_118 : (Jvm.Cond.instanceMethod ({ cls := "TeethForCoinsModel", name := "noTooth", desc := "(I)Z" } : Jvm.MethodName)) ∈ TB := tb_t (tl_4 118 rfl) rfl
theorem w4_119 : (Jvm.Cond.code ({ cls := "TeethForCoinsModel", name := "noTooth", desc := "(I)Z" } : Jvm.MethodName) prog_11_method_6_code (2 : Nat) (Option.some Jvm.ClassFile.FieldType.boolean)) ∈ TB := tb_t (tl_4 119 rfl) rfl
theorem w4_120 : (Jvm.Cond.methodLink "TeethForCoinsModel" (182 : Nat) ({ cls := "TeethForCoinsModel", name := "worth", desc := "(I)I" } : Jvm.MethodName)) ∈ TB := tb_t (tl_4 120 rfl) rfl
theorem w4_122 : (Jvm.Cond.instanceMethod ({ cls := "TeethForCoinsModel", name := "worth", desc := "(I)I" } : Jvm.MethodName)) ∈ TB := tb_t (tl_4 122 rfl) rfl
theorem w4_123 : (Jvm.Cond.code ({ cls := "TeethForCoinsModel", name := "worth", desc := "(I)I" } : Jvm.MethodName) prog_11_method_22_code (2 : Nat) (Option.some Jvm.ClassFile.FieldType.int)) ∈ TB := tb_t (tl_4 123 rfl) rfl
theorem w4_124 : (Jvm.Cond.methodLink "TeethForCoinsModel" (175 : Nat) ({ cls := "TeethForCoinsModel", name := "worthBy", desc := "(II)I" } : Jvm.MethodName)) ∈ TB := tb_t (tl_4 124 rfl) rfl
theorem w4_126 : (Jvm.Cond.instanceMethod ({ cls := "TeethForCoinsModel", name := "worthBy", desc := "(II)I" } : Jvm.MethodName)) ∈ TB := tb_t (tl_4 126 rfl) rfl
theorem w4_127 : (Jvm.Cond.code ({ cls := "TeethForCoinsModel", name := "worthBy", desc := "(II)I" } : Jvm.MethodName) prog_11_method_21_code (4 : Nat) (Option.some Jvm.ClassFile.FieldType.int)) ∈ TB := tb_t (tl_4 127 rfl) rfl
theorem w4_128 : (Jvm.Cond.methodLink "TeethForCoinsLaw" (46 : Nat) ({ cls := "TeethForCoinsModel", name := "good", desc := "(II)I" } : Jvm.MethodName)) ∈ TB := tb_t (tl_4 128 rfl) rfl
theorem w4_129 : (Jvm.Cond.instanceMethod ({ cls := "TeethForCoinsModel", name := "good", desc := "(II)I" } : Jvm.MethodName)) ∈ TB := tb_t (tl_4 129 rfl) rfl
theorem w4_130 : (Jvm.Cond.selects "TeethForCoinsModel" ({ cls := "TeethForCoinsModel", name := "good", desc := "(II)I" } : Jvm.MethodName) ({ cls := "TeethForCoinsModel", name := "good", desc := "(II)I" } : Jvm.MethodName)) ∈ TB := tb_t (tl_4 130 rfl) rfl
theorem w4_131 : (Jvm.Cond.code ({ cls := "TeethForCoinsModel", name := "good", desc := "(II)I" } : Jvm.MethodName) prog_11_method_24_code (3 : Nat) (Option.some Jvm.ClassFile.FieldType.int)) ∈ TB := tb_t (tl_4 131 rfl) rfl
theorem w4_132 : (Jvm.Cond.methodLink "TeethForCoinsLaw" (50 : Nat) ({ cls := "TeethForCoinsModel", name := "purse", desc := "(I)I" } : Jvm.MethodName)) ∈ TB := tb_t (tl_4 132 rfl) rfl
theorem w4_133 : (Jvm.Cond.instanceMethod ({ cls := "TeethForCoinsModel", name := "purse", desc := "(I)I" } : Jvm.MethodName)) ∈ TB := tb_t (tl_4 133 rfl) rfl
theorem w4_134 : (Jvm.Cond.selects "TeethForCoinsModel" ({ cls := "TeethForCoinsModel", name := "purse", desc := "(I)I" } : Jvm.MethodName) ({ cls := "TeethForCoinsModel", name := "purse", desc := "(I)I" } : Jvm.MethodName)) ∈ TB := tb_t (tl_4 134 rfl) rfl
theorem w4_135 : (Jvm.Cond.code ({ cls := "TeethForCoinsModel", name := "purse", desc := "(I)I" } : Jvm.MethodName) prog_11_method_27_code (2 : Nat) (Option.some Jvm.ClassFile.FieldType.int)) ∈ TB := tb_t (tl_4 135 rfl) rfl
theorem w4_136 : (Jvm.Cond.methodLink "TeethForCoinsModel" (190 : Nat) ({ cls := "TeethForCoinsModel", name := "noOne", desc := "(I)Z" } : Jvm.MethodName)) ∈ TB := tb_t (tl_4 136 rfl) rfl
theorem w4_137 : (Jvm.Cond.static ({ cls := "TeethForCoinsModel", name := "noOne", desc := "(I)Z" } : Jvm.MethodName)) ∈ TB := tb_t (tl_4 137 rfl) rfl
theorem w4_138 : (Jvm.Cond.code ({ cls := "TeethForCoinsModel", name := "noOne", desc := "(I)Z" } : Jvm.MethodName) prog_11_method_7_code (1 : Nat) (Option.some Jvm.ClassFile.FieldType.boolean)) ∈ TB := tb_t (tl_4 138 rfl) rfl
theorem w4_139 : (Jvm.Cond.constantLong "TeethForCoinsModel" (118 : Nat) (3 : Int64)) ∈ TB := tb_t (tl_4 139 rfl) rfl
theorem w4_140 : (Jvm.Cond.methodLink "TeethForCoinsModel" (193 : Nat) ({ cls := "TeethForCoinsModel", name := "setOf", desc := "(I)I" } : Jvm.MethodName)) ∈ TB := tb_t (tl_4 140 rfl) rfl
theorem w4_142 : (Jvm.Cond.instanceMethod ({ cls := "TeethForCoinsModel", name := "setOf", desc := "(I)I" } : Jvm.MethodName)) ∈ TB := tb_t (tl_4 142 rfl) rfl
theorem w4_143 : (Jvm.Cond.code ({ cls := "TeethForCoinsModel", name := "setOf", desc := "(I)I" } : Jvm.MethodName) prog_11_method_25_code (4 : Nat) (Option.some Jvm.ClassFile.FieldType.int)) ∈ TB := tb_t (tl_4 143 rfl) rfl
theorem w4_144 : (Jvm.Cond.methodLink "TeethForCoinsModel" (196 : Nat) ({ cls := "TeethForCoinsModel", name := "worthOf", desc := "(I)I" } : Jvm.MethodName)) ∈ TB := tb_t (tl_4 144 rfl) rfl
theorem w4_146 : (Jvm.Cond.instanceMethod ({ cls := "TeethForCoinsModel", name := "worthOf", desc := "(I)I" } : Jvm.MethodName)) ∈ TB := tb_t (tl_4 146 rfl) rfl
theorem w4_147 : (Jvm.Cond.code ({ cls := "TeethForCoinsModel", name := "worthOf", desc := "(I)I" } : Jvm.MethodName) prog_11_method_26_code (4 : Nat) (Option.some Jvm.ClassFile.FieldType.int)) ∈ TB := tb_t (tl_4 147 rfl) rfl
theorem w4_148 : (Jvm.Cond.methodLink "TeethForCoinsModel" (186 : Nat) ({ cls := "TeethForCoinsModel", name := "has", desc := "(II)Z" } : Jvm.MethodName)) ∈ TB := tb_t (tl_4 148 rfl) rfl
theorem w4_149 : (Jvm.Cond.static ({ cls := "TeethForCoinsModel", name := "has", desc := "(II)Z" } : Jvm.MethodName)) ∈ TB := tb_t (tl_4 149 rfl) rfl
theorem w4_150 : (Jvm.Cond.code ({ cls := "TeethForCoinsModel", name := "has", desc := "(II)Z" } : Jvm.MethodName) prog_11_method_4_code (2 : Nat) (Option.some Jvm.ClassFile.FieldType.boolean)) ∈ TB := tb_t (tl_4 150 rfl) rfl
theorem w4_151 : (Jvm.Cond.methodLink "TeethForCoinsLaw" (54 : Nat) ({ cls := "TeethForCoinsModel", name := "handle", desc := "(I)I" } : Jvm.MethodName)) ∈ TB := tb_t (tl_4 151 rfl) rfl
theorem w4_152 : (Jvm.Cond.instanceMethod ({ cls := "TeethForCoinsModel", name := "handle", desc := "(I)I" } : Jvm.MethodName)) ∈ TB := tb_t (tl_4 152 rfl) rfl
theorem w4_153 : (Jvm.Cond.selects "TeethForCoinsModel" ({ cls := "TeethForCoinsModel", name := "handle", desc := "(I)I" } : Jvm.MethodName) ({ cls := "TeethForCoinsModel", name := "handle", desc := "(I)I" } : Jvm.MethodName)) ∈ TB := tb_t (tl_4 153 rfl) rfl
theorem w4_154 : (Jvm.Cond.code ({ cls := "TeethForCoinsModel", name := "handle", desc := "(I)I" } : Jvm.MethodName) prog_11_method_29_code (2 : Nat) (Option.some Jvm.ClassFile.FieldType.int)) ∈ TB := tb_t (tl_4 154 rfl) rfl
theorem w4_155 : (Jvm.Cond.methodLink "TeethForCoinsModel" (199 : Nat) ({ cls := "TeethForCoinsModel", name := "goHandle", desc := "(I)V" } : Jvm.MethodName)) ∈ TB := tb_t (tl_4 155 rfl) rfl
theorem w4_157 : (Jvm.Cond.instanceMethod ({ cls := "TeethForCoinsModel", name := "goHandle", desc := "(I)V" } : Jvm.MethodName)) ∈ TB := tb_t (tl_4 157 rfl) rfl
theorem w4_158 : (Jvm.Cond.code ({ cls := "TeethForCoinsModel", name := "goHandle", desc := "(I)V" } : Jvm.MethodName) prog_11_method_28_code (2 : Nat) (Option.none : Option Jvm.ClassFile.FieldType)) ∈ TB := tb_t (tl_4 158 rfl) rfl
theorem w4_159 : (Jvm.Cond.methodLink "TeethForCoinsLaw" (58 : Nat) ({ cls := "TeethForCoinsModel", name := "bite", desc := "(I)I" } : Jvm.MethodName)) ∈ TB := tb_t (tl_4 159 rfl) rfl
theorem w4_160 : (Jvm.Cond.instanceMethod ({ cls := "TeethForCoinsModel", name := "bite", desc := "(I)I" } : Jvm.MethodName)) ∈ TB := tb_t (tl_4 160 rfl) rfl
theorem w4_161 : (Jvm.Cond.selects "TeethForCoinsModel" ({ cls := "TeethForCoinsModel", name := "bite", desc := "(I)I" } : Jvm.MethodName) ({ cls := "TeethForCoinsModel", name := "bite", desc := "(I)I" } : Jvm.MethodName)) ∈ TB := tb_t (tl_4 161 rfl) rfl
theorem w4_162 : (Jvm.Cond.code ({ cls := "TeethForCoinsModel", name := "bite", desc := "(I)I" } : Jvm.MethodName) prog_11_method_30_code (2 : Nat) (Option.some Jvm.ClassFile.FieldType.int)) ∈ TB := tb_t (tl_4 162 rfl) rfl
theorem w4_163 : (Jvm.Cond.methodLink "TeethForCoinsLaw" (63 : Nat) ({ cls := "TeethForCoinsModel", name := "fewest", desc := "(III)I" } : Jvm.MethodName)) ∈ TB := tb_t (tl_4 163 rfl) rfl
theorem w4_164 : (Jvm.Cond.instanceMethod ({ cls := "TeethForCoinsModel", name := "fewest", desc := "(III)I" } : Jvm.MethodName)) ∈ TB := tb_t (tl_4 164 rfl) rfl
theorem w4_165 : (Jvm.Cond.selects "TeethForCoinsModel" ({ cls := "TeethForCoinsModel", name := "fewest", desc := "(III)I" } : Jvm.MethodName) ({ cls := "TeethForCoinsModel", name := "fewest", desc := "(III)I" } : Jvm.MethodName)) ∈ TB := tb_t (tl_4 165 rfl) rfl
theorem w4_166 : (Jvm.Cond.code ({ cls := "TeethForCoinsModel", name := "fewest", desc := "(III)I" } : Jvm.MethodName) prog_11_method_34_code (5 : Nat) (Option.some Jvm.ClassFile.FieldType.int)) ∈ TB := tb_t (tl_4 166 rfl) rfl
theorem w4_167 : (Jvm.Cond.methodLink "TeethForCoinsModel" (216 : Nat) ({ cls := "TeethForCoinsModel", name := "noPay", desc := "(III)I" } : Jvm.MethodName)) ∈ TB := tb_t (tl_4 167 rfl) rfl
theorem w4_168 : (Jvm.Cond.static ({ cls := "TeethForCoinsModel", name := "noPay", desc := "(III)I" } : Jvm.MethodName)) ∈ TB := tb_t (tl_4 168 rfl) rfl
theorem w4_169 : (Jvm.Cond.code ({ cls := "TeethForCoinsModel", name := "noPay", desc := "(III)I" } : Jvm.MethodName) prog_11_method_33_code (3 : Nat) (Option.some Jvm.ClassFile.FieldType.int)) ∈ TB := tb_t (tl_4 169 rfl) rfl
theorem w4_170 : (Jvm.Cond.constantLong "TeethForCoinsModel" (214 : Nat) (999 : Int64)) ∈ TB := tb_t (tl_4 170 rfl) rfl
theorem w4_171 : (Jvm.Cond.methodLink "TeethForCoinsModel" (220 : Nat) ({ cls := "TeethForCoinsModel", name := "findFewest", desc := "(III)I" } : Jvm.MethodName)) ∈ TB := tb_t (tl_4 171 rfl) rfl
theorem w4_173 : (Jvm.Cond.instanceMethod ({ cls := "TeethForCoinsModel", name := "findFewest", desc := "(III)I" } : Jvm.MethodName)) ∈ TB := tb_t (tl_4 173 rfl) rfl
theorem w4_174 : (Jvm.Cond.code ({ cls := "TeethForCoinsModel", name := "findFewest", desc := "(III)I" } : Jvm.MethodName) prog_11_method_32_code (13 : Nat) (Option.some Jvm.ClassFile.FieldType.int)) ∈ TB := tb_t (tl_4 174 rfl) rfl
theorem w4_175 : (Jvm.Cond.methodLink "TeethForCoinsModel" (202 : Nat) ({ cls := "TeethForCoinsModel", name := "many", desc := "(I)I" } : Jvm.MethodName)) ∈ TB := tb_t (tl_4 175 rfl) rfl
theorem w4_176 : (Jvm.Cond.static ({ cls := "TeethForCoinsModel", name := "many", desc := "(I)I" } : Jvm.MethodName)) ∈ TB := tb_t (tl_4 176 rfl) rfl
theorem w4_177 : (Jvm.Cond.code ({ cls := "TeethForCoinsModel", name := "many", desc := "(I)I" } : Jvm.MethodName) prog_11_method_5_code (3 : Nat) (Option.some Jvm.ClassFile.FieldType.int)) ∈ TB := tb_t (tl_4 177 rfl) rfl
theorem w4_178 : (Jvm.Cond.methodLink "TeethForCoinsModel" (211 : Nat) ({ cls := "TeethForCoinsModel", name := "next", desc := "(II)I" } : Jvm.MethodName)) ∈ TB := tb_t (tl_4 178 rfl) rfl
theorem w4_179 : (Jvm.Cond.static ({ cls := "TeethForCoinsModel", name := "next", desc := "(II)I" } : Jvm.MethodName)) ∈ TB := tb_t (tl_4 179 rfl) rfl
theorem w4_180 : (Jvm.Cond.code ({ cls := "TeethForCoinsModel", name := "next", desc := "(II)I" } : Jvm.MethodName) prog_11_method_31_code (2 : Nat) (Option.some Jvm.ClassFile.FieldType.int)) ∈ TB := tb_t (tl_4 180 rfl) rfl
theorem w4_181 : (Jvm.Cond.methodLink "TeethForCoinsLaw" (68 : Nat) ({ cls := "TeethForCoinsModel", name := "paid", desc := "(IIIZ)I" } : Jvm.MethodName)) ∈ TB := tb_t (tl_4 181 rfl) rfl
theorem w4_182 : (Jvm.Cond.instanceMethod ({ cls := "TeethForCoinsModel", name := "paid", desc := "(IIIZ)I" } : Jvm.MethodName)) ∈ TB := tb_t (tl_4 182 rfl) rfl
theorem w4_183 : (Jvm.Cond.selects "TeethForCoinsModel" ({ cls := "TeethForCoinsModel", name := "paid", desc := "(IIIZ)I" } : Jvm.MethodName) ({ cls := "TeethForCoinsModel", name := "paid", desc := "(IIIZ)I" } : Jvm.MethodName)) ∈ TB := tb_t (tl_4 183 rfl) rfl
theorem w4_184 : (Jvm.Cond.code ({ cls := "TeethForCoinsModel", name := "paid", desc := "(IIIZ)I" } : Jvm.MethodName) prog_11_method_35_code (6 : Nat) (Option.some Jvm.ClassFile.FieldType.int)) ∈ TB := tb_t (tl_4 184 rfl) rfl
theorem w4_185 : (Jvm.Cond.methodLink "TeethForCoinsLaw" (72 : Nat) ({ cls := "TeethForCoinsModel", name := "pay", desc := "(III)I" } : Jvm.MethodName)) ∈ TB := tb_t (tl_4 185 rfl) rfl
theorem w4_186 : (Jvm.Cond.instanceMethod ({ cls := "TeethForCoinsModel", name := "pay", desc := "(III)I" } : Jvm.MethodName)) ∈ TB := tb_t (tl_4 186 rfl) rfl
theorem w4_187 : (Jvm.Cond.selects "TeethForCoinsModel" ({ cls := "TeethForCoinsModel", name := "pay", desc := "(III)I" } : Jvm.MethodName) ({ cls := "TeethForCoinsModel", name := "pay", desc := "(III)I" } : Jvm.MethodName)) ∈ TB := tb_t (tl_4 187 rfl) rfl
theorem w4_188 : (Jvm.Cond.code ({ cls := "TeethForCoinsModel", name := "pay", desc := "(III)I" } : Jvm.MethodName) prog_11_method_39_code (6 : Nat) (Option.some Jvm.ClassFile.FieldType.int)) ∈ TB := tb_t (tl_4 188 rfl) rfl
theorem w4_189 : (Jvm.Cond.methodLink "TeethForCoinsModel" (223 : Nat) ({ cls := "TeethForCoinsModel", name := "lay", desc := "([II)V" } : Jvm.MethodName)) ∈ TB := tb_t (tl_4 189 rfl) rfl
theorem w4_191 : (Jvm.Cond.instanceMethod ({ cls := "TeethForCoinsModel", name := "lay", desc := "([II)V" } : Jvm.MethodName)) ∈ TB := tb_t (tl_4 191 rfl) rfl
theorem w4_192 : (Jvm.Cond.code ({ cls := "TeethForCoinsModel", name := "lay", desc := "([II)V" } : Jvm.MethodName) prog_11_method_36_code (4 : Nat) (Option.none : Option Jvm.ClassFile.FieldType)) ∈ TB := tb_t (tl_4 192 rfl) rfl
theorem w4_193 : (Jvm.Cond.methodLink "TeethForCoinsModel" (227 : Nat) ({ cls := "TeethForCoinsModel", name := "goOver", desc := "(II)V" } : Jvm.MethodName)) ∈ TB := tb_t (tl_4 193 rfl) rfl
theorem w4_195 : (Jvm.Cond.instanceMethod ({ cls := "TeethForCoinsModel", name := "goOver", desc := "(II)V" } : Jvm.MethodName)) ∈ TB := tb_t (tl_4 195 rfl) rfl
theorem w4_196 : (Jvm.Cond.code ({ cls := "TeethForCoinsModel", name := "goOver", desc := "(II)V" } : Jvm.MethodName) prog_11_method_38_code (4 : Nat) (Option.none : Option Jvm.ClassFile.FieldType)) ∈ TB := tb_t (tl_4 196 rfl) rfl
theorem w4_197 : (Jvm.Cond.methodLink "TeethForCoinsLaw" (76 : Nat) ({ cls := "TeethForCoinsModel", name := "undo", desc := "()I" } : Jvm.MethodName)) ∈ TB := tb_t (tl_4 197 rfl) rfl
theorem w4_198 : (Jvm.Cond.instanceMethod ({ cls := "TeethForCoinsModel", name := "undo", desc := "()I" } : Jvm.MethodName)) ∈ TB := tb_t (tl_4 198 rfl) rfl
theorem w4_199 : (Jvm.Cond.selects "TeethForCoinsModel" ({ cls := "TeethForCoinsModel", name := "undo", desc := "()I" } : Jvm.MethodName) ({ cls := "TeethForCoinsModel", name := "undo", desc := "()I" } : Jvm.MethodName)) ∈ TB := tb_t (tl_4 199 rfl) rfl
theorem w4_200 : (Jvm.Cond.code ({ cls := "TeethForCoinsModel", name := "undo", desc := "()I" } : Jvm.MethodName) prog_11_method_40_code (1 : Nat) (Option.some Jvm.ClassFile.FieldType.int)) ∈ TB := tb_t (tl_4 200 rfl) rfl
theorem w4_201 : (Jvm.Cond.methodLink "TeethForCoinsModel" (231 : Nat) ({ cls := "TeethForCoinsModel", name := "take", desc := "([II)V" } : Jvm.MethodName)) ∈ TB := tb_t (tl_4 201 rfl) rfl
theorem w4_203 : (Jvm.Cond.instanceMethod ({ cls := "TeethForCoinsModel", name := "take", desc := "([II)V" } : Jvm.MethodName)) ∈ TB := tb_t (tl_4 203 rfl) rfl
theorem w4_204 : (Jvm.Cond.code ({ cls := "TeethForCoinsModel", name := "take", desc := "([II)V" } : Jvm.MethodName) prog_11_method_37_code (5 : Nat) (Option.none : Option Jvm.ClassFile.FieldType)) ∈ TB := tb_t (tl_4 204 rfl) rfl
theorem w4_205 : (Jvm.Cond.methodLink "TeethForCoinsLaw" (81 : Nat) ({ cls := "TeethForCoinsModel", name := "tooMuch", desc := "(IIZ)I" } : Jvm.MethodName)) ∈ TB := tb_t (tl_4 205 rfl) rfl
theorem w4_206 : (Jvm.Cond.instanceMethod ({ cls := "TeethForCoinsModel", name := "tooMuch", desc := "(IIZ)I" } : Jvm.MethodName)) ∈ TB := tb_t (tl_4 206 rfl) rfl
theorem w4_207 : (Jvm.Cond.selects "TeethForCoinsModel" ({ cls := "TeethForCoinsModel", name := "tooMuch", desc := "(IIZ)I" } : Jvm.MethodName) ({ cls := "TeethForCoinsModel", name := "tooMuch", desc := "(IIZ)I" } : Jvm.MethodName)) ∈ TB := tb_t (tl_4 207 rfl) rfl
theorem w4_208 : (Jvm.Cond.code ({ cls := "TeethForCoinsModel", name := "tooMuch", desc := "(IIZ)I" } : Jvm.MethodName) prog_11_method_42_code (5 : Nat) (Option.some Jvm.ClassFile.FieldType.int)) ∈ TB := tb_t (tl_4 208 rfl) rfl
theorem w4_209 : (Jvm.Cond.methodLink "TeethForCoinsModel" (237 : Nat) ({ cls := "TeethForCoinsModel", name := "findMuch", desc := "(II)I" } : Jvm.MethodName)) ∈ TB := tb_t (tl_4 209 rfl) rfl
theorem w4_211 : (Jvm.Cond.instanceMethod ({ cls := "TeethForCoinsModel", name := "findMuch", desc := "(II)I" } : Jvm.MethodName)) ∈ TB := tb_t (tl_4 211 rfl) rfl
theorem w4_212 : (Jvm.Cond.code ({ cls := "TeethForCoinsModel", name := "findMuch", desc := "(II)I" } : Jvm.MethodName) prog_11_method_41_code (9 : Nat) (Option.some Jvm.ClassFile.FieldType.int)) ∈ TB := tb_t (tl_4 212 rfl) rfl
theorem w4_213 : (Jvm.Cond.methodLink "TeethForCoinsLaw" (85 : Nat) ({ cls := "TeethForCoinsModel", name := "sums", desc := "(III)I" } : Jvm.MethodName)) ∈ TB := tb_t (tl_4 213 rfl) rfl
theorem w4_214 : (Jvm.Cond.instanceMethod ({ cls := "TeethForCoinsModel", name := "sums", desc := "(III)I" } : Jvm.MethodName)) ∈ TB := tb_t (tl_4 214 rfl) rfl
theorem w4_215 : (Jvm.Cond.selects "TeethForCoinsModel" ({ cls := "TeethForCoinsModel", name := "sums", desc := "(III)I" } : Jvm.MethodName) ({ cls := "TeethForCoinsModel", name := "sums", desc := "(III)I" } : Jvm.MethodName)) ∈ TB := tb_t (tl_4 215 rfl) rfl
theorem w4_216 : (Jvm.Cond.code ({ cls := "TeethForCoinsModel", name := "sums", desc := "(III)I" } : Jvm.MethodName) prog_11_method_43_code (12 : Nat) (Option.some Jvm.ClassFile.FieldType.int)) ∈ TB := tb_t (tl_4 216 rfl) rfl
theorem w4_217 : (Jvm.Cond.methodLink "TeethForCoinsLaw" (90 : Nat) ({ cls := "TeethForCoinsModel", name := "spent", desc := "(IZ)I" } : Jvm.MethodName)) ∈ TB := tb_t (tl_4 217 rfl) rfl
theorem w4_218 : (Jvm.Cond.instanceMethod ({ cls := "TeethForCoinsModel", name := "spent", desc := "(IZ)I" } : Jvm.MethodName)) ∈ TB := tb_t (tl_4 218 rfl) rfl
theorem w4_219 : (Jvm.Cond.selects "TeethForCoinsModel" ({ cls := "TeethForCoinsModel", name := "spent", desc := "(IZ)I" } : Jvm.MethodName) ({ cls := "TeethForCoinsModel", name := "spent", desc := "(IZ)I" } : Jvm.MethodName)) ∈ TB := tb_t (tl_4 219 rfl) rfl
theorem w4_220 : (Jvm.Cond.code ({ cls := "TeethForCoinsModel", name := "spent", desc := "(IZ)I" } : Jvm.MethodName) prog_11_method_44_code (11 : Nat) (Option.some Jvm.ClassFile.FieldType.int)) ∈ TB := tb_t (tl_4 220 rfl) rfl
theorem w4_221 : (Jvm.Cond.methodLink "TeethForCoinsLaw" (94 : Nat) ({ cls := "TeethForCoinsModel", name := "caught", desc := "(IJ)I" } : Jvm.MethodName)) ∈ TB := tb_t (tl_4 221 rfl) rfl
theorem w4_222 : (Jvm.Cond.instanceMethod ({ cls := "TeethForCoinsModel", name := "caught", desc := "(IJ)I" } : Jvm.MethodName)) ∈ TB := tb_t (tl_4 222 rfl) rfl
theorem w4_223 : (Jvm.Cond.selects "TeethForCoinsModel" ({ cls := "TeethForCoinsModel", name := "caught", desc := "(IJ)I" } : Jvm.MethodName) ({ cls := "TeethForCoinsModel", name := "caught", desc := "(IJ)I" } : Jvm.MethodName)) ∈ TB := tb_t (tl_4 223 rfl) rfl
theorem w4_224 : (Jvm.Cond.code ({ cls := "TeethForCoinsModel", name := "caught", desc := "(IJ)I" } : Jvm.MethodName) prog_11_method_47_code (4 : Nat) (Option.some Jvm.ClassFile.FieldType.int)) ∈ TB := tb_t (tl_4 224 rfl) rfl
theorem w4_225 : (Jvm.Cond.methodLink "TeethForCoinsModel" (248 : Nat) ({ cls := "TeethForCoinsModel", name := "draw", desc := "(J)J" } : Jvm.MethodName)) ∈ TB := tb_t (tl_4 225 rfl) rfl
theorem w4_226 : (Jvm.Cond.static ({ cls := "TeethForCoinsModel", name := "draw", desc := "(J)J" } : Jvm.MethodName)) ∈ TB := tb_t (tl_4 226 rfl) rfl
theorem w4_227 : (Jvm.Cond.code ({ cls := "TeethForCoinsModel", name := "draw", desc := "(J)J" } : Jvm.MethodName) prog_11_method_46_code (2 : Nat) (Option.some Jvm.ClassFile.FieldType.long)) ∈ TB := tb_t (tl_4 227 rfl) rfl
theorem w4_228 : (Jvm.Cond.constantLong "TeethForCoinsModel" (244 : Nat) (6364136223846793005 : Int64)) ∈ TB := tb_t (tl_4 228 rfl) rfl
theorem w4_229 : (Jvm.Cond.constantLong "TeethForCoinsModel" (246 : Nat) (1442695040888963407 : Int64)) ∈ TB := tb_t (tl_4 229 rfl) rfl
theorem w4_230 : (Jvm.Cond.methodLink "TeethForCoinsModel" (252 : Nat) ({ cls := "TeethForCoinsModel", name := "add", desc := "(IJ)V" } : Jvm.MethodName)) ∈ TB := tb_t (tl_4 230 rfl) rfl
theorem w4_232 : (Jvm.Cond.instanceMethod ({ cls := "TeethForCoinsModel", name := "add", desc := "(IJ)V" } : Jvm.MethodName)) ∈ TB := tb_t (tl_4 232 rfl) rfl
theorem w4_233 : (Jvm.Cond.code ({ cls := "TeethForCoinsModel", name := "add", desc := "(IJ)V" } : Jvm.MethodName) prog_11_method_45_code (6 : Nat) (Option.none : Option Jvm.ClassFile.FieldType)) ∈ TB := tb_t (tl_4 233 rfl) rfl
theorem w4_234 : (Jvm.Cond.constantLong "TeethForCoinsModel" (240 : Nat) (9 : Int64)) ∈ TB := tb_t (tl_4 234 rfl) rfl
theorem w4_235 : (Jvm.Cond.constantLong "TeethForCoinsModel" (242 : Nat) (2 : Int64)) ∈ TB := tb_t (tl_4 235 rfl) rfl
theorem w4_236 : (Jvm.Cond.methodLink "TeethForCoinsLaw" (98 : Nat) ({ cls := "TeethForCoinsModel", name := "washed", desc := "(IJ)I" } : Jvm.MethodName)) ∈ TB := tb_t (tl_4 236 rfl) rfl
theorem w4_237 : (Jvm.Cond.instanceMethod ({ cls := "TeethForCoinsModel", name := "washed", desc := "(IJ)I" } : Jvm.MethodName)) ∈ TB := tb_t (tl_4 237 rfl) rfl
theorem w4_238 : (Jvm.Cond.selects "TeethForCoinsModel" ({ cls := "TeethForCoinsModel", name := "washed", desc := "(IJ)I" } : Jvm.MethodName) ({ cls := "TeethForCoinsModel", name := "washed", desc := "(IJ)I" } : Jvm.MethodName)) ∈ TB := tb_t (tl_4 238 rfl) rfl
theorem w4_239 : (Jvm.Cond.code ({ cls := "TeethForCoinsModel", name := "washed", desc := "(IJ)I" } : Jvm.MethodName) prog_11_method_48_code (7 : Nat) (Option.some Jvm.ClassFile.FieldType.int)) ∈ TB := tb_t (tl_4 239 rfl) rfl
theorem w5_0 : (Jvm.Cond.constantLong "TeethForCoinsModel" (256 : Nat) (10 : Int64)) ∈ TB := tb_t (tl_5 0 rfl) rfl
theorem w5_1 : (Jvm.Cond.methodLink "TeethForCoinsLaw" (102 : Nat) ({ cls := "TeethForCoinsModel", name := "life", desc := "(II)I" } : Jvm.MethodName)) ∈ TB := tb_t (tl_5 1 rfl) rfl
theorem w5_2 : (Jvm.Cond.instanceMethod ({ cls := "TeethForCoinsModel", name := "life", desc := "(II)I" } : Jvm.MethodName)) ∈ TB := tb_t (tl_5 2 rfl) rfl
theorem w5_3 : (Jvm.Cond.selects "TeethForCoinsModel" ({ cls := "TeethForCoinsModel", name := "life", desc := "(II)I" } : Jvm.MethodName) ({ cls := "TeethForCoinsModel", name := "life", desc := "(II)I" } : Jvm.MethodName)) ∈ TB := tb_t (tl_5 3 rfl) rfl
theorem w5_4 : (Jvm.Cond.code ({ cls := "TeethForCoinsModel", name := "life", desc := "(II)I" } : Jvm.MethodName) prog_11_method_49_code (4 : Nat) (Option.some Jvm.ClassFile.FieldType.int)) ∈ TB := tb_t (tl_5 4 rfl) rfl
theorem w5_5 : (Jvm.Cond.methodLink "TeethForCoinsLaw" (106 : Nat) ({ cls := "TeethForCoinsModel", name := "trace", desc := "(II)I" } : Jvm.MethodName)) ∈ TB := tb_t (tl_5 5 rfl) rfl
theorem w5_6 : (Jvm.Cond.instanceMethod ({ cls := "TeethForCoinsModel", name := "trace", desc := "(II)I" } : Jvm.MethodName)) ∈ TB := tb_t (tl_5 6 rfl) rfl
theorem w5_7 : (Jvm.Cond.selects "TeethForCoinsModel" ({ cls := "TeethForCoinsModel", name := "trace", desc := "(II)I" } : Jvm.MethodName) ({ cls := "TeethForCoinsModel", name := "trace", desc := "(II)I" } : Jvm.MethodName)) ∈ TB := tb_t (tl_5 7 rfl) rfl
theorem w5_8 : (Jvm.Cond.code ({ cls := "TeethForCoinsModel", name := "trace", desc := "(II)I" } : Jvm.MethodName) prog_11_method_50_code (3 : Nat) (Option.some Jvm.ClassFile.FieldType.int)) ∈ TB := tb_t (tl_5 8 rfl) rfl
theorem w5_9 : (Jvm.Cond.methodLink "TeethForCoinsLaw" (110 : Nat) ({ cls := "TeethForCoinsModel", name := "inflated", desc := "(II)I" } : Jvm.MethodName)) ∈ TB := tb_t (tl_5 9 rfl) rfl
theorem w5_10 : (Jvm.Cond.instanceMethod ({ cls := "TeethForCoinsModel", name := "inflated", desc := "(II)I" } : Jvm.MethodName)) ∈ TB := tb_t (tl_5 10 rfl) rfl
theorem w5_11 : (Jvm.Cond.selects "TeethForCoinsModel" ({ cls := "TeethForCoinsModel", name := "inflated", desc := "(II)I" } : Jvm.MethodName) ({ cls := "TeethForCoinsModel", name := "inflated", desc := "(II)I" } : Jvm.MethodName)) ∈ TB := tb_t (tl_5 11 rfl) rfl
theorem w5_12 : (Jvm.Cond.code ({ cls := "TeethForCoinsModel", name := "inflated", desc := "(II)I" } : Jvm.MethodName) prog_11_method_51_code (4 : Nat) (Option.some Jvm.ClassFile.FieldType.int)) ∈ TB := tb_t (tl_5 12 rfl) rfl
theorem w5_13 : (Jvm.Cond.constantLong "TeethForCoinsModel" (258 : Nat) (9999 : Int64)) ∈ TB := tb_t (tl_5 13 rfl) rfl
theorem w5_14 : (Jvm.Cond.methodLink "TeethForCoinsLaw" (115 : Nat) ({ cls := "TeethForCoinsModel", name := "doubt", desc := "(IIIIIZ)J" } : Jvm.MethodName)) ∈ TB := tb_t (tl_5 14 rfl) rfl
theorem w5_15 : (Jvm.Cond.instanceMethod ({ cls := "TeethForCoinsModel", name := "doubt", desc := "(IIIIIZ)J" } : Jvm.MethodName)) ∈ TB := tb_t (tl_5 15 rfl) rfl
theorem w5_16 : (Jvm.Cond.selects "TeethForCoinsModel" ({ cls := "TeethForCoinsModel", name := "doubt", desc := "(IIIIIZ)J" } : Jvm.MethodName) ({ cls := "TeethForCoinsModel", name := "doubt", desc := "(IIIIIZ)J" } : Jvm.MethodName)) ∈ TB := tb_t (tl_5 16 rfl) rfl
theorem w5_17 : (Jvm.Cond.code ({ cls := "TeethForCoinsModel", name := "doubt", desc := "(IIIIIZ)J" } : Jvm.MethodName) prog_11_method_55_code (11 : Nat) (Option.some Jvm.ClassFile.FieldType.long)) ∈ TB := tb_t (tl_5 17 rfl) rfl
theorem w5_18 : (Jvm.Cond.methodLink "TeethForCoinsModel" (260 : Nat) ({ cls := "TeethForCoinsModel", name := "noTenths", desc := "(I)Z" } : Jvm.MethodName)) ∈ TB := tb_t (tl_5 18 rfl) rfl
theorem w5_19 : (Jvm.Cond.static ({ cls := "TeethForCoinsModel", name := "noTenths", desc := "(I)Z" } : Jvm.MethodName)) ∈ TB := tb_t (tl_5 19 rfl) rfl
theorem w5_20 : (Jvm.Cond.code ({ cls := "TeethForCoinsModel", name := "noTenths", desc := "(I)Z" } : Jvm.MethodName) prog_11_method_54_code (1 : Nat) (Option.some Jvm.ClassFile.FieldType.boolean)) ∈ TB := tb_t (tl_5 20 rfl) rfl
theorem w5_21 : (Jvm.Cond.constantLong "TeethForCoinsModel" (263 : Nat) (6 : Int64)) ∈ TB := tb_t (tl_5 21 rfl) rfl
theorem w5_22 : (Jvm.Cond.constantLong "TeethForCoinsModel" (265 : Nat) (-2 : Int64)) ∈ TB := tb_t (tl_5 22 rfl) rfl
theorem w5_23 : (Jvm.Cond.methodLink "TeethForCoinsModel" (267 : Nat) ({ cls := "TeethForCoinsModel", name := "power", desc := "(JI)J" } : Jvm.MethodName)) ∈ TB := tb_t (tl_5 23 rfl) rfl
theorem w5_24 : (Jvm.Cond.static ({ cls := "TeethForCoinsModel", name := "power", desc := "(JI)J" } : Jvm.MethodName)) ∈ TB := tb_t (tl_5 24 rfl) rfl
theorem w5_25 : (Jvm.Cond.code ({ cls := "TeethForCoinsModel", name := "power", desc := "(JI)J" } : Jvm.MethodName) prog_11_method_53_code (6 : Nat) (Option.some Jvm.ClassFile.FieldType.long)) ∈ TB := tb_t (tl_5 25 rfl) rfl
theorem w5_26 : (Jvm.Cond.constantLong "TeethForCoinsModel" (271 : Nat) (-3 : Int64)) ∈ TB := tb_t (tl_5 26 rfl) rfl
theorem w5_27 : (Jvm.Cond.methodLink "TeethForCoinsModel" (273 : Nat) ({ cls := "TeethForCoinsModel", name := "told", desc := "(JJZ)J" } : Jvm.MethodName)) ∈ TB := tb_t (tl_5 27 rfl) rfl
theorem w5_28 : (Jvm.Cond.static ({ cls := "TeethForCoinsModel", name := "told", desc := "(JJZ)J" } : Jvm.MethodName)) ∈ TB := tb_t (tl_5 28 rfl) rfl
theorem w5_29 : (Jvm.Cond.code ({ cls := "TeethForCoinsModel", name := "told", desc := "(JJZ)J" } : Jvm.MethodName) prog_11_method_52_code (11 : Nat) (Option.some Jvm.ClassFile.FieldType.long)) ∈ TB := tb_t (tl_5 29 rfl) rfl
theorem w5_30 : (Jvm.Cond.methodLink "TeethForCoinsLaw" (120 : Nat) ({ cls := "TeethForCoinsModel", name := "among", desc := "(IIIZ)J" } : Jvm.MethodName)) ∈ TB := tb_t (tl_5 30 rfl) rfl
theorem w5_31 : (Jvm.Cond.instanceMethod ({ cls := "TeethForCoinsModel", name := "among", desc := "(IIIZ)J" } : Jvm.MethodName)) ∈ TB := tb_t (tl_5 31 rfl) rfl
theorem w5_32 : (Jvm.Cond.selects "TeethForCoinsModel" ({ cls := "TeethForCoinsModel", name := "among", desc := "(IIIZ)J" } : Jvm.MethodName) ({ cls := "TeethForCoinsModel", name := "among", desc := "(IIIZ)J" } : Jvm.MethodName)) ∈ TB := tb_t (tl_5 32 rfl) rfl
theorem w5_33 : (Jvm.Cond.code ({ cls := "TeethForCoinsModel", name := "among", desc := "(IIIZ)J" } : Jvm.MethodName) prog_11_method_56_code (10 : Nat) (Option.some Jvm.ClassFile.FieldType.long)) ∈ TB := tb_t (tl_5 33 rfl) rfl
theorem w5_34 : (Jvm.Cond.methodLink "TeethForCoinsLaw" (125 : Nat) ({ cls := "TeethForCoinsModel", name := "rate", desc := "(IIII)I" } : Jvm.MethodName)) ∈ TB := tb_t (tl_5 34 rfl) rfl
theorem w5_35 : (Jvm.Cond.instanceMethod ({ cls := "TeethForCoinsModel", name := "rate", desc := "(IIII)I" } : Jvm.MethodName)) ∈ TB := tb_t (tl_5 35 rfl) rfl
theorem w5_36 : (Jvm.Cond.selects "TeethForCoinsModel" ({ cls := "TeethForCoinsModel", name := "rate", desc := "(IIII)I" } : Jvm.MethodName) ({ cls := "TeethForCoinsModel", name := "rate", desc := "(IIII)I" } : Jvm.MethodName)) ∈ TB := tb_t (tl_5 36 rfl) rfl
theorem w5_37 : (Jvm.Cond.code ({ cls := "TeethForCoinsModel", name := "rate", desc := "(IIII)I" } : Jvm.MethodName) prog_11_method_57_code (6 : Nat) (Option.some Jvm.ClassFile.FieldType.int)) ∈ TB := tb_t (tl_5 37 rfl) rfl
theorem w5_38 : (Jvm.Cond.constantLong "TeethForCoinsModel" (277 : Nat) (99 : Int64)) ∈ TB := tb_t (tl_5 38 rfl) rfl
theorem w5_39 : (Jvm.Cond.methodLink "TeethForCoinsLaw" (130 : Nat) ({ cls := "TeethForCoinsModel", name := "ring", desc := "(Z)J" } : Jvm.MethodName)) ∈ TB := tb_t (tl_5 39 rfl) rfl
theorem w5_40 : (Jvm.Cond.instanceMethod ({ cls := "TeethForCoinsModel", name := "ring", desc := "(Z)J" } : Jvm.MethodName)) ∈ TB := tb_t (tl_5 40 rfl) rfl
theorem w5_41 : (Jvm.Cond.selects "TeethForCoinsModel" ({ cls := "TeethForCoinsModel", name := "ring", desc := "(Z)J" } : Jvm.MethodName) ({ cls := "TeethForCoinsModel", name := "ring", desc := "(Z)J" } : Jvm.MethodName)) ∈ TB := tb_t (tl_5 41 rfl) rfl
theorem w5_42 : (Jvm.Cond.code ({ cls := "TeethForCoinsModel", name := "ring", desc := "(Z)J" } : Jvm.MethodName) prog_11_method_60_code (2 : Nat) (Option.some Jvm.ClassFile.FieldType.long)) ∈ TB := tb_t (tl_5 42 rfl) rfl
theorem w5_43 : (Jvm.Cond.methodLink "TeethForCoinsModel" (292 : Nat) ({ cls := "TeethForCoinsModel", name := "findRing", desc := "()V" } : Jvm.MethodName)) ∈ TB := tb_t (tl_5 43 rfl) rfl
theorem w5_45 : (Jvm.Cond.instanceMethod ({ cls := "TeethForCoinsModel", name := "findRing", desc := "()V" } : Jvm.MethodName)) ∈ TB := tb_t (tl_5 45 rfl) rfl
theorem w5_46 : (Jvm.Cond.code ({ cls := "TeethForCoinsModel", name := "findRing", desc := "()V" } : Jvm.MethodName) prog_11_method_59_code (9 : Nat) (Option.none : Option Jvm.ClassFile.FieldType)) ∈ TB := tb_t (tl_5 46 rfl) rfl
theorem w5_47 : (Jvm.Cond.methodLink "TeethForCoinsModel" (286 : Nat) ({ cls := "TeethForCoinsModel", name := "layRing", desc := "(II)Z" } : Jvm.MethodName)) ∈ TB := tb_t (tl_5 47 rfl) rfl
theorem w5_49 : (Jvm.Cond.instanceMethod ({ cls := "TeethForCoinsModel", name := "layRing", desc := "(II)Z" } : Jvm.MethodName)) ∈ TB := tb_t (tl_5 49 rfl) rfl
theorem w5_50 : (Jvm.Cond.code ({ cls := "TeethForCoinsModel", name := "layRing", desc := "(II)Z" } : Jvm.MethodName) prog_11_method_58_code (7 : Nat) (Option.some Jvm.ClassFile.FieldType.boolean)) ∈ TB := tb_t (tl_5 50 rfl) rfl
theorem w5_51 : (Jvm.Cond.methodLink "TeethForCoinsLaw" (134 : Nat) ({ cls := "TeethForCoinsModel", name := "ringAt", desc := "(I)I" } : Jvm.MethodName)) ∈ TB := tb_t (tl_5 51 rfl) rfl
theorem w5_52 : (Jvm.Cond.instanceMethod ({ cls := "TeethForCoinsModel", name := "ringAt", desc := "(I)I" } : Jvm.MethodName)) ∈ TB := tb_t (tl_5 52 rfl) rfl
theorem w5_53 : (Jvm.Cond.selects "TeethForCoinsModel" ({ cls := "TeethForCoinsModel", name := "ringAt", desc := "(I)I" } : Jvm.MethodName) ({ cls := "TeethForCoinsModel", name := "ringAt", desc := "(I)I" } : Jvm.MethodName)) ∈ TB := tb_t (tl_5 53 rfl) rfl
theorem w5_54 : (Jvm.Cond.code ({ cls := "TeethForCoinsModel", name := "ringAt", desc := "(I)I" } : Jvm.MethodName) prog_11_method_61_code (2 : Nat) (Option.some Jvm.ClassFile.FieldType.int)) ∈ TB := tb_t (tl_5 54 rfl) rfl
theorem w5_55 : (Jvm.Cond.methodLink "TeethForCoinsLaw" (138 : Nat) ({ cls := "TeethForCoinsModel", name := "should", desc := "(II)I" } : Jvm.MethodName)) ∈ TB := tb_t (tl_5 55 rfl) rfl
theorem w5_56 : (Jvm.Cond.instanceMethod ({ cls := "TeethForCoinsModel", name := "should", desc := "(II)I" } : Jvm.MethodName)) ∈ TB := tb_t (tl_5 56 rfl) rfl
theorem w5_57 : (Jvm.Cond.selects "TeethForCoinsModel" ({ cls := "TeethForCoinsModel", name := "should", desc := "(II)I" } : Jvm.MethodName) ({ cls := "TeethForCoinsModel", name := "should", desc := "(II)I" } : Jvm.MethodName)) ∈ TB := tb_t (tl_5 57 rfl) rfl
theorem w5_58 : (Jvm.Cond.code ({ cls := "TeethForCoinsModel", name := "should", desc := "(II)I" } : Jvm.MethodName) prog_11_method_62_code (4 : Nat) (Option.some Jvm.ClassFile.FieldType.int)) ∈ TB := tb_t (tl_5 58 rfl) rfl
theorem w5_59 : (Jvm.Cond.methodLink "TeethForCoinsLaw" (142 : Nat) ({ cls := "TeethForCoinsModel", name := "stolen", desc := "()I" } : Jvm.MethodName)) ∈ TB := tb_t (tl_5 59 rfl) rfl
theorem w5_60 : (Jvm.Cond.instanceMethod ({ cls := "TeethForCoinsModel", name := "stolen", desc := "()I" } : Jvm.MethodName)) ∈ TB := tb_t (tl_5 60 rfl) rfl
theorem w5_61 : (Jvm.Cond.selects "TeethForCoinsModel" ({ cls := "TeethForCoinsModel", name := "stolen", desc := "()I" } : Jvm.MethodName) ({ cls := "TeethForCoinsModel", name := "stolen", desc := "()I" } : Jvm.MethodName)) ∈ TB := tb_t (tl_5 61 rfl) rfl
theorem w5_62 : (Jvm.Cond.code ({ cls := "TeethForCoinsModel", name := "stolen", desc := "()I" } : Jvm.MethodName) prog_11_method_64_code (1 : Nat) (Option.some Jvm.ClassFile.FieldType.int)) ∈ TB := tb_t (tl_5 62 rfl) rfl
theorem w5_63 : (Jvm.Cond.methodLink "TeethForCoinsModel" (295 : Nat) ({ cls := "TeethForCoinsModel", name := "stolenSet", desc := "()I" } : Jvm.MethodName)) ∈ TB := tb_t (tl_5 63 rfl) rfl
theorem w5_65 : (Jvm.Cond.instanceMethod ({ cls := "TeethForCoinsModel", name := "stolenSet", desc := "()I" } : Jvm.MethodName)) ∈ TB := tb_t (tl_5 65 rfl) rfl
theorem w5_66 : (Jvm.Cond.code ({ cls := "TeethForCoinsModel", name := "stolenSet", desc := "()I" } : Jvm.MethodName) prog_11_method_63_code (3 : Nat) (Option.some Jvm.ClassFile.FieldType.int)) ∈ TB := tb_t (tl_5 66 rfl) rfl
theorem w5_67 : (Jvm.Cond.methodLink "TeethForCoinsLaw" (146 : Nat) ({ cls := "TeethForCoinsModel", name := "thief", desc := "()I" } : Jvm.MethodName)) ∈ TB := tb_t (tl_5 67 rfl) rfl
theorem w5_68 : (Jvm.Cond.instanceMethod ({ cls := "TeethForCoinsModel", name := "thief", desc := "()I" } : Jvm.MethodName)) ∈ TB := tb_t (tl_5 68 rfl) rfl
theorem w5_69 : (Jvm.Cond.selects "TeethForCoinsModel" ({ cls := "TeethForCoinsModel", name := "thief", desc := "()I" } : Jvm.MethodName) ({ cls := "TeethForCoinsModel", name := "thief", desc := "()I" } : Jvm.MethodName)) ∈ TB := tb_t (tl_5 69 rfl) rfl
theorem w5_70 : (Jvm.Cond.code ({ cls := "TeethForCoinsModel", name := "thief", desc := "()I" } : Jvm.MethodName) prog_11_method_65_code (7 : Nat) (Option.some Jvm.ClassFile.FieldType.int)) ∈ TB := tb_t (tl_5 70 rfl) rfl
theorem w5_71 : (Jvm.Cond.methodLink "TeethForCoinsLaw" (150 : Nat) ({ cls := "TeethForCoinsModel", name := "keep", desc := "(I)I" } : Jvm.MethodName)) ∈ TB := tb_t (tl_5 71 rfl) rfl
theorem w5_72 : (Jvm.Cond.instanceMethod ({ cls := "TeethForCoinsModel", name := "keep", desc := "(I)I" } : Jvm.MethodName)) ∈ TB := tb_t (tl_5 72 rfl) rfl
theorem w5_73 : (Jvm.Cond.selects "TeethForCoinsModel" ({ cls := "TeethForCoinsModel", name := "keep", desc := "(I)I" } : Jvm.MethodName) ({ cls := "TeethForCoinsModel", name := "keep", desc := "(I)I" } : Jvm.MethodName)) ∈ TB := tb_t (tl_5 73 rfl) rfl
theorem w5_74 : (Jvm.Cond.code ({ cls := "TeethForCoinsModel", name := "keep", desc := "(I)I" } : Jvm.MethodName) prog_11_method_66_code (3 : Nat) (Option.some Jvm.ClassFile.FieldType.int)) ∈ TB := tb_t (tl_5 74 rfl) rfl
theorem w5_75 : (Jvm.Cond.methodLink "TeethForCoinsLaw" (154 : Nat) ({ cls := "TeethForCoinsModel", name := "again", desc := "(I)I" } : Jvm.MethodName)) ∈ TB := tb_t (tl_5 75 rfl) rfl
theorem w5_76 : (Jvm.Cond.instanceMethod ({ cls := "TeethForCoinsModel", name := "again", desc := "(I)I" } : Jvm.MethodName)) ∈ TB := tb_t (tl_5 76 rfl) rfl
theorem w5_77 : (Jvm.Cond.selects "TeethForCoinsModel" ({ cls := "TeethForCoinsModel", name := "again", desc := "(I)I" } : Jvm.MethodName) ({ cls := "TeethForCoinsModel", name := "again", desc := "(I)I" } : Jvm.MethodName)) ∈ TB := tb_t (tl_5 77 rfl) rfl
theorem w5_78 : (Jvm.Cond.code ({ cls := "TeethForCoinsModel", name := "again", desc := "(I)I" } : Jvm.MethodName) prog_11_method_67_code (3 : Nat) (Option.some Jvm.ClassFile.FieldType.int)) ∈ TB := tb_t (tl_5 78 rfl) rfl
theorem w5_79 : (Jvm.Cond.constantLong "TeethForCoinsLaw" (13 : Nat) (4294967295 : Int64)) ∈ TB := tb_t (tl_5 79 rfl) rfl
def mX0_remember : MR := (yX0_remember, cX0_remember, 2, none, 3, 84)
def mX0_takeBack : MR := (yX0_takeBack, cX0_takeBack, 2, none, 3, 86)
def mX0_copyFrom : MR := (yX0_copyFrom, cX0_copyFrom, 3, none, 3, 84)
def mX1_add : MR := (yX1_add, cX1_add, 3, none, 0, 0)
def mX1_priceOf : MR := (yX1_priceOf, cX1_priceOf, 2, (some .int), 0, 0)
def mX1_useOf : MR := (yX1_useOf, cX1_useOf, 2, (some .int), 0, 0)
def mX1_priceOfSet : MR := (yX1_priceOfSet, cX1_priceOfSet, 4, (some .int), 1, 21)
def mX1_useOfSet : MR := (yX1_useOfSet, cX1_useOfSet, 4, (some .int), 1, 21)
def mX2_clear : MR := (yX2_clear, cX2_clear, 1, none, 0, 0)
def mX2_offer : MR := (yX2_offer, cX2_offer, 4, none, 0, 0)
def mX3_gotFor : MR := (yX3_gotFor, cX3_gotFor, 4, (some .int), 0, 0)
def mX3_givenFor : MR := (yX3_givenFor, cX3_givenFor, 4, (some .int), 0, 0)
def mX3_put : MR := (yX3_put, cX3_put, 6, none, 0, 0)
def mX3_copyFrom : MR := (yX3_copyFrom, cX3_copyFrom, 2, none, 1, 40)
def mX4_clear : MR := (yX4_clear, cX4_clear, 1, none, 0, 0)
def mX4_moneyAt : MR := (yX4_moneyAt, cX4_moneyAt, 3, (some .int), 0, 0)
def mX4_isRing : MR := (yX4_isRing, cX4_isRing, 6, (some .boolean), 1, 22)
def mX4_offer : MR := (yX4_offer, cX4_offer, 11, none, 1, 23)
def mX5_takeIn : MR := (yX5_takeIn, cX5_takeIn, 4, none, 4, 106)
def mX5_giveOut : MR := (yX5_giveOut, cX5_giveOut, 4, none, 4, 106)
def mX6_get : MR := (yX6_get, cX6_get, 4, (some .int), 0, 0)
def mX6_set : MR := (yX6_set, cX6_set, 5, none, 0, 0)
def mX6_add : MR := (yX6_add, cX6_add, 5, (some .int), 2, 47)
def mX6_passTo : MR := (yX6_passTo, cX6_passTo, 4, none, 1, 24)
def mX6_traceOf : MR := (yX6_traceOf, cX6_traceOf, 3, (some .int), 1, 23)
def mX6_wearDown : MR := (yX6_wearDown, cX6_wearDown, 2, none, 1, 40)
def mX6_ownedBy : MR := (yX6_ownedBy, cX6_ownedBy, 4, (some .int), 1, 23)
def mX6_fakes : MR := (yX6_fakes, cX6_fakes, 3, (some .int), 1, 23)
def mX6_wearTooMuch : MR := (yX6_wearTooMuch, cX6_wearTooMuch, 2, (some .int), 1, 40)
def mX6_wearTooMuchOf : MR := (yX6_wearTooMuchOf, cX6_wearTooMuchOf, 4, (some .int), 2, 61)
def mX6_copyFrom : MR := (yX6_copyFrom, cX6_copyFrom, 2, none, 2, 63)
def mX6_takeBack : MR := (yX6_takeBack, cX6_takeBack, 4, none, 2, 63)
def mX6_copyCells : MR := (yX6_copyCells, cX6_copyCells, 4, none, 1, 40)
def mX7_append : MR := (yX7_append, cX7_append, 2, none, 0, 0)
def mX7_byteAt : MR := (yX7_byteAt, cX7_byteAt, 2, (some .int), 0, 0)
def mX7_figureAt : MR := (yX7_figureAt, cX7_figureAt, 2, (some .int), 1, 21)
def mX7_tellsTooth : MR := (yX7_tellsTooth, cX7_tellsTooth, 1, (some .boolean), 0, 0)
def mX7_partLength : MR := (yX7_partLength, cX7_partLength, 1, (some .int), 0, 0)
def mX7_faultPlace : MR := (yX7_faultPlace, cX7_faultPlace, 7, (some .int), 3, 69)
def mX7_mayBegin : MR := (yX7_mayBegin, cX7_mayBegin, 3, (some .boolean), 1, 20)
def mX7_mayFollow : MR := (yX7_mayFollow, cX7_mayFollow, 8, (some .boolean), 2, 42)
def mX8_write : MR := (yX8_write, cX8_write, 5, (some .int), 1, 21)
def mX8_wipe : MR := (yX8_wipe, cX8_wipe, 2, (some .int), 0, 0)
def mX8_fault : MR := (yX8_fault, cX8_fault, 1, (some .int), 4, 95)
def mX8_market : MR := (yX8_market, cX8_market, 2, (some .int), 4, 95)
def mX8_about : MR := (yX8_about, cX8_about, 2, (some .int), 2, 45)
def mX8_tooth : MR := (yX8_tooth, cX8_tooth, 3, (some .int), 3, 84)
def mX8_good : MR := (yX8_good, cX8_good, 3, (some .int), 1, 21)
def mX8_purse : MR := (yX8_purse, cX8_purse, 2, (some .int), 4, 107)
def mX8_handle : MR := (yX8_handle, cX8_handle, 2, (some .int), 3, 84)
def mX8_bite : MR := (yX8_bite, cX8_bite, 3, (some .int), 3, 84)
def mX8_fewest : MR := (yX8_fewest, cX8_fewest, 5, (some .int), 5, 136)
def mX8_paid : MR := (yX8_paid, cX8_paid, 6, (some .int), 5, 136)
def mX8_pay : MR := (yX8_pay, cX8_pay, 5, (some .int), 5, 136)
def mX8_undo : MR := (yX8_undo, cX8_undo, 1, (some .int), 4, 107)
def mX8_tooMuch : MR := (yX8_tooMuch, cX8_tooMuch, 4, (some .int), 5, 132)
def mX8_sums : MR := (yX8_sums, cX8_sums, 9, (some .int), 4, 109)
def mX8_spent : MR := (yX8_spent, cX8_spent, 6, (some .int), 4, 107)
def mX8_caught : MR := (yX8_caught, cX8_caught, 4, (some .int), 4, 96)
def mX8_washed : MR := (yX8_washed, cX8_washed, 7, (some .int), 4, 96)
def mX8_life : MR := (yX8_life, cX8_life, 5, (some .int), 2, 63)
def mX8_trace : MR := (yX8_trace, cX8_trace, 3, (some .int), 2, 45)
def mX8_inflated : MR := (yX8_inflated, cX8_inflated, 4, (some .int), 4, 107)
def mX8_doubt : MR := (yX8_doubt, cX8_doubt, 11, (some .long), 2, 56)
def mX8_among : MR := (yX8_among, cX8_among, 10, (some .long), 2, 56)
def mX8_rate : MR := (yX8_rate, cX8_rate, 6, (some .int), 1, 25)
def mX8_ring : MR := (yX8_ring, cX8_ring, 2, (some .long), 3, 76)
def mX8_ringAt : MR := (yX8_ringAt, cX8_ringAt, 2, (some .int), 3, 76)
def mX8_should : MR := (yX8_should, cX8_should, 4, (some .int), 1, 24)
def mX8_stolen : MR := (yX8_stolen, cX8_stolen, 3, (some .int), 2, 61)
def mX8_thief : MR := (yX8_thief, cX8_thief, 5, (some .int), 3, 84)
def mX8_keep : MR := (yX8_keep, cX8_keep, 2, (some .int), 5, 129)
def mX8_again : MR := (yX8_again, cX8_again, 2, (some .int), 5, 129)
def mX8_isTooth : MR := (yX8_isTooth, cX8_isTooth, 2, (some .boolean), 0, 0)
def mX8_isGood : MR := (yX8_isGood, cX8_isGood, 2, (some .boolean), 0, 0)
def mX8_isSlot : MR := (yX8_isSlot, cX8_isSlot, 2, (some .boolean), 0, 0)
def mX8_isPerson : MR := (yX8_isPerson, cX8_isPerson, 1, (some .boolean), 0, 0)
def mX8_isMoney : MR := (yX8_isMoney, cX8_isMoney, 1, (some .boolean), 0, 0)
def mX8_isPrice : MR := (yX8_isPrice, cX8_isPrice, 1, (some .boolean), 0, 0)
def mX8_isTenths : MR := (yX8_isTenths, cX8_isTenths, 1, (some .boolean), 0, 0)
def mX8_paymentRefusal : MR := (yX8_paymentRefusal, cX8_paymentRefusal, 3, (some .int), 1, 20)
def mX8_readPart : MR := (yX8_readPart, cX8_readPart, 4, none, 3, 71)
def mX8_worthWorn : MR := (yX8_worthWorn, cX8_worthWorn, 4, (some .int), 1, 40)
def mX8_worthOf : MR := (yX8_worthOf, cX8_worthOf, 2, (some .int), 2, 63)
def mX8_worthOfSet : MR := (yX8_worthOfSet, cX8_worthOfSet, 4, (some .int), 3, 84)
def mX8_setsOfTeeth : MR := (yX8_setsOfTeeth, cX8_setsOfTeeth, 1, (some .int), 1, 40)
def mX8_weighSets : MR := (yX8_weighSets, cX8_weighSets, 6, none, 3, 84)
def mX8_seekFewest : MR := (yX8_seekFewest, cX8_seekFewest, 8, none, 4, 109)
def mX8_seekTooMuch : MR := (yX8_seekTooMuch, cX8_seekTooMuch, 4, none, 4, 109)
def mX8_handOver : MR := (yX8_handOver, cX8_handOver, 4, none, 2, 61)
def mX8_drawFrom : MR := (yX8_drawFrom, cX8_drawFrom, 2, (some .long), 0, 0)
def mX8_addDrawn : MR := (yX8_addDrawn, cX8_addDrawn, 6, none, 3, 71)
def mX8_power : MR := (yX8_power, cX8_power, 6, (some .long), 0, 0)
def mX8_ofFraction : MR := (yX8_ofFraction, cX8_ofFraction, 7, (some .long), 1, 30)
def mX8_commonDivisor : MR := (yX8_commonDivisor, cX8_commonDivisor, 11, (some .long), 0, 0)
def mX8_seekRing : MR := (yX8_seekRing, cX8_seekRing, 4, none, 2, 53)
def mX9_in : MR := (yX9_in, cX9_in, 6, (some .boolean), 0, 0)
def mX9_has : MR := (yX9_has, cX9_has, 2, (some .boolean), 0, 0)
def mX9_many : MR := (yX9_many, cX9_many, 3, (some .int), 0, 0)
def mX9_noTooth : MR := (yX9_noTooth, cX9_noTooth, 2, (some .boolean), 1, 25)
def mX9_noOne : MR := (yX9_noOne, cX9_noOne, 1, (some .boolean), 1, 25)
def mX9_write : MR := (yX9_write, cX9_write, 5, (some .int), 1, 25)
def mX9_wipe : MR := (yX9_wipe, cX9_wipe, 2, (some .int), 0, 0)
def mX9_figure : MR := (yX9_figure, cX9_figure, 3, (some .int), 1, 25)
def mX9_side : MR := (yX9_side, cX9_side, 1, (some .int), 0, 0)
def mX9_readTooth : MR := (yX9_readTooth, cX9_readTooth, 6, (some .boolean), 2, 47)
def mX9_readGood : MR := (yX9_readGood, cX9_readGood, 4, (some .boolean), 2, 47)
def mX9_readPart : MR := (yX9_readPart, cX9_readPart, 4, (some .boolean), 3, 72)
def mX9_readMarket : MR := (yX9_readMarket, cX9_readMarket, 1, (some .int), 4, 95)
def mX9_fault : MR := (yX9_fault, cX9_fault, 1, (some .int), 5, 115)
def mX9_come : MR := (yX9_come, cX9_come, 2, none, 0, 0)
def mX9_market : MR := (yX9_market, cX9_market, 2, (some .int), 5, 115)
def mX9_fakes : MR := (yX9_fakes, cX9_fakes, 3, (some .int), 0, 0)
def mX9_about : MR := (yX9_about, cX9_about, 2, (some .int), 1, 22)
def mX9_worthBy : MR := (yX9_worthBy, cX9_worthBy, 4, (some .int), 0, 0)
def mX9_worth : MR := (yX9_worth, cX9_worth, 2, (some .int), 1, 23)
def mX9_tooth : MR := (yX9_tooth, cX9_tooth, 3, (some .int), 2, 46)
def mX9_good : MR := (yX9_good, cX9_good, 3, (some .int), 1, 25)
def mX9_setOf : MR := (yX9_setOf, cX9_setOf, 4, (some .int), 0, 0)
def mX9_worthOf : MR := (yX9_worthOf, cX9_worthOf, 4, (some .int), 2, 44)
def mX9_purse : MR := (yX9_purse, cX9_purse, 2, (some .int), 3, 67)
def mX9_goHandle : MR := (yX9_goHandle, cX9_goHandle, 2, none, 0, 0)
def mX9_handle : MR := (yX9_handle, cX9_handle, 2, (some .int), 2, 46)
def mX9_bite : MR := (yX9_bite, cX9_bite, 2, (some .int), 2, 46)
def mX9_next : MR := (yX9_next, cX9_next, 2, (some .int), 0, 0)
def mX9_findFewest : MR := (yX9_findFewest, cX9_findFewest, 13, (some .int), 3, 67)
def mX9_noPay : MR := (yX9_noPay, cX9_noPay, 3, (some .int), 2, 45)
def mX9_fewest : MR := (yX9_fewest, cX9_fewest, 5, (some .int), 4, 99)
def mX9_paid : MR := (yX9_paid, cX9_paid, 6, (some .int), 4, 99)
def mX9_lay : MR := (yX9_lay, cX9_lay, 4, none, 0, 0)
def mX9_take : MR := (yX9_take, cX9_take, 5, none, 0, 0)
def mX9_goOver : MR := (yX9_goOver, cX9_goOver, 4, none, 1, 21)
def mX9_pay : MR := (yX9_pay, cX9_pay, 6, (some .int), 4, 99)
def mX9_undo : MR := (yX9_undo, cX9_undo, 1, (some .int), 1, 24)
def mX9_findMuch : MR := (yX9_findMuch, cX9_findMuch, 9, (some .int), 3, 67)
def mX9_tooMuch : MR := (yX9_tooMuch, cX9_tooMuch, 5, (some .int), 4, 95)
def mX9_sums : MR := (yX9_sums, cX9_sums, 12, (some .int), 3, 67)
def mX9_spent : MR := (yX9_spent, cX9_spent, 11, (some .int), 3, 67)
def mX9_add : MR := (yX9_add, cX9_add, 6, none, 1, 21)
def mX9_draw : MR := (yX9_draw, cX9_draw, 2, (some .long), 0, 0)
def mX9_caught : MR := (yX9_caught, cX9_caught, 4, (some .int), 2, 46)
def mX9_washed : MR := (yX9_washed, cX9_washed, 7, (some .int), 2, 46)
def mX9_life : MR := (yX9_life, cX9_life, 4, (some .int), 2, 46)
def mX9_trace : MR := (yX9_trace, cX9_trace, 3, (some .int), 2, 46)
def mX9_inflated : MR := (yX9_inflated, cX9_inflated, 4, (some .int), 3, 67)
def mX9_told : MR := (yX9_told, cX9_told, 11, (some .long), 0, 0)
def mX9_power : MR := (yX9_power, cX9_power, 6, (some .long), 0, 0)
def mX9_noTenths : MR := (yX9_noTenths, cX9_noTenths, 1, (some .boolean), 1, 25)
def mX9_doubt : MR := (yX9_doubt, cX9_doubt, 11, (some .long), 2, 45)
def mX9_among : MR := (yX9_among, cX9_among, 10, (some .long), 2, 45)
def mX9_rate : MR := (yX9_rate, cX9_rate, 6, (some .int), 2, 45)
def mX9_layRing : MR := (yX9_layRing, cX9_layRing, 7, (some .boolean), 0, 0)
def mX9_findRing : MR := (yX9_findRing, cX9_findRing, 9, none, 1, 26)
def mX9_ring : MR := (yX9_ring, cX9_ring, 2, (some .long), 2, 54)
def mX9_ringAt : MR := (yX9_ringAt, cX9_ringAt, 2, (some .int), 2, 54)
def mX9_should : MR := (yX9_should, cX9_should, 4, (some .int), 2, 46)
def mX9_stolenSet : MR := (yX9_stolenSet, cX9_stolenSet, 3, (some .int), 0, 0)
def mX9_stolen : MR := (yX9_stolen, cX9_stolen, 1, (some .int), 1, 22)
def mX9_thief : MR := (yX9_thief, cX9_thief, 7, (some .int), 1, 22)
def mX9_keep : MR := (yX9_keep, cX9_keep, 3, (some .int), 1, 25)
def mX9_again : MR := (yX9_again, cX9_again, 3, (some .int), 1, 25)
def mJ6_bitCount_0f7a4 : MR := (yJ6_bitCount_0f7a4, cJ6_bitCount_0f7a4, 1, (some .int), 0, 0)
def mJ7_fill_53178 : MR := (yJ7_fill_53178, cJ7_fill_53178, 4, none, 0, 0)
def mL_law : MR := (yL_law, cL_law, 4, (some .boolean), 6, 161)
theorem oc_X0_remember : okC mX0_remember 1 := ⟨⟨by decide +kernel, by decide +kernel⟩, w2_169, w1_5, by decide +kernel, by decide +kernel, by decide +kernel⟩
theorem im_X0_remember : Cond.instanceMethod mX0_remember.1 ∈ TB := w2_168
theorem se_X0_remember : Cond.selects mX0_remember.1.cls mX0_remember.1 mX0_remember.1 ∈ TB := tb_p 26 rfl rfl
theorem oc_X0_takeBack : okC mX0_takeBack 1 := ⟨⟨by decide +kernel, by decide +kernel⟩, w2_193, w1_5, by decide +kernel, by decide +kernel, by decide +kernel⟩
theorem im_X0_takeBack : Cond.instanceMethod mX0_takeBack.1 ∈ TB := w2_192
theorem se_X0_takeBack : Cond.selects mX0_takeBack.1.cls mX0_takeBack.1 mX0_takeBack.1 ∈ TB := tb_p 30 rfl rfl
theorem oc_X0_copyFrom : okC mX0_copyFrom 1 := ⟨⟨by decide +kernel, by decide +kernel⟩, w3_129, w1_5, by decide +kernel, by decide +kernel, by decide +kernel⟩
theorem im_X0_copyFrom : Cond.instanceMethod mX0_copyFrom.1 ∈ TB := w3_128
theorem se_X0_copyFrom : Cond.selects mX0_copyFrom.1.cls mX0_copyFrom.1 mX0_copyFrom.1 ∈ TB := tb_p 47 rfl rfl
theorem oc_X1_add : okC mX1_add 2 := ⟨⟨by decide +kernel, by decide +kernel⟩, w2_45, w1_4, by decide +kernel, by decide +kernel, by decide +kernel⟩
theorem im_X1_add : Cond.instanceMethod mX1_add.1 ∈ TB := w2_44
theorem se_X1_add : Cond.selects mX1_add.1.cls mX1_add.1 mX1_add.1 ∈ TB := tb_p 10 rfl rfl
theorem oc_X1_priceOf : okC mX1_priceOf 1 := ⟨⟨by decide +kernel, by decide +kernel⟩, w2_86, w1_4, by decide +kernel, by decide +kernel, by decide +kernel⟩
theorem im_X1_priceOf : Cond.instanceMethod mX1_priceOf.1 ∈ TB := w2_85
theorem se_X1_priceOf : Cond.selects mX1_priceOf.1.cls mX1_priceOf.1 mX1_priceOf.1 ∈ TB := tb_p 16 rfl rfl
theorem oc_X1_useOf : okC mX1_useOf 1 := ⟨⟨by decide +kernel, by decide +kernel⟩, w2_90, w1_4, by decide +kernel, by decide +kernel, by decide +kernel⟩
theorem im_X1_useOf : Cond.instanceMethod mX1_useOf.1 ∈ TB := w2_89
theorem se_X1_useOf : Cond.selects mX1_useOf.1.cls mX1_useOf.1 mX1_useOf.1 ∈ TB := tb_p 17 rfl rfl
theorem oc_X1_priceOfSet : okC mX1_priceOfSet 1 := ⟨⟨by decide +kernel, by decide +kernel⟩, w2_218, w1_4, by decide +kernel, by decide +kernel, by decide +kernel⟩
theorem im_X1_priceOfSet : Cond.instanceMethod mX1_priceOfSet.1 ∈ TB := w2_217
theorem se_X1_priceOfSet : Cond.selects mX1_priceOfSet.1.cls mX1_priceOfSet.1 mX1_priceOfSet.1 ∈ TB := tb_p 33 rfl rfl
theorem oc_X1_useOfSet : okC mX1_useOfSet 1 := ⟨⟨by decide +kernel, by decide +kernel⟩, w2_223, w1_4, by decide +kernel, by decide +kernel, by decide +kernel⟩
theorem im_X1_useOfSet : Cond.instanceMethod mX1_useOfSet.1 ∈ TB := w2_222
theorem se_X1_useOfSet : Cond.selects mX1_useOfSet.1.cls mX1_useOfSet.1 mX1_useOfSet.1 ∈ TB := tb_p 34 rfl rfl
theorem oc_X2_clear : okC mX2_clear 0 := ⟨⟨by decide +kernel, by decide +kernel⟩, w2_142, w1_8, by decide +kernel, by decide +kernel, by decide +kernel⟩
theorem im_X2_clear : Cond.instanceMethod mX2_clear.1 ∈ TB := w2_141
theorem se_X2_clear : Cond.selects mX2_clear.1.cls mX2_clear.1 mX2_clear.1 ∈ TB := tb_p 23 rfl rfl
theorem oc_X2_offer : okC mX2_offer 3 := ⟨⟨by decide +kernel, by decide +kernel⟩, w2_157, w1_8, by decide +kernel, by decide +kernel, by decide +kernel⟩
theorem im_X2_offer : Cond.instanceMethod mX2_offer.1 ∈ TB := w2_156
theorem se_X2_offer : Cond.selects mX2_offer.1.cls mX2_offer.1 mX2_offer.1 ∈ TB := tb_p 25 rfl rfl
theorem oc_X3_gotFor : okC mX3_gotFor 2 := ⟨⟨by decide +kernel, by decide +kernel⟩, w3_53, w1_6, by decide +kernel, by decide +kernel, by decide +kernel⟩
theorem im_X3_gotFor : Cond.instanceMethod mX3_gotFor.1 ∈ TB := w3_52
theorem se_X3_gotFor : Cond.selects mX3_gotFor.1.cls mX3_gotFor.1 mX3_gotFor.1 ∈ TB := tb_p 37 rfl rfl
theorem oc_X3_givenFor : okC mX3_givenFor 2 := ⟨⟨by decide +kernel, by decide +kernel⟩, w3_57, w1_6, by decide +kernel, by decide +kernel, by decide +kernel⟩
theorem im_X3_givenFor : Cond.instanceMethod mX3_givenFor.1 ∈ TB := w3_56
theorem se_X3_givenFor : Cond.selects mX3_givenFor.1.cls mX3_givenFor.1 mX3_givenFor.1 ∈ TB := tb_p 38 rfl rfl
theorem oc_X3_put : okC mX3_put 4 := ⟨⟨by decide +kernel, by decide +kernel⟩, w3_61, w1_6, by decide +kernel, by decide +kernel, by decide +kernel⟩
theorem im_X3_put : Cond.instanceMethod mX3_put.1 ∈ TB := w3_60
theorem se_X3_put : Cond.selects mX3_put.1.cls mX3_put.1 mX3_put.1 ∈ TB := tb_p 39 rfl rfl
theorem oc_X3_copyFrom : okC mX3_copyFrom 1 := ⟨⟨by decide +kernel, by decide +kernel⟩, w3_133, w1_6, by decide +kernel, by decide +kernel, by decide +kernel⟩
theorem im_X3_copyFrom : Cond.instanceMethod mX3_copyFrom.1 ∈ TB := w3_132
theorem se_X3_copyFrom : Cond.selects mX3_copyFrom.1.cls mX3_copyFrom.1 mX3_copyFrom.1 ∈ TB := tb_p 48 rfl rfl
theorem oc_X4_clear : okC mX4_clear 0 := ⟨⟨by decide +kernel, by decide +kernel⟩, w3_73, w1_9, by decide +kernel, by decide +kernel, by decide +kernel⟩
theorem im_X4_clear : Cond.instanceMethod mX4_clear.1 ∈ TB := w3_72
theorem se_X4_clear : Cond.selects mX4_clear.1.cls mX4_clear.1 mX4_clear.1 ∈ TB := tb_p 41 rfl rfl
theorem oc_X4_moneyAt : okC mX4_moneyAt 3 := ⟨⟨by decide +kernel, by decide +kernel⟩, w3_79, w1_9, by decide +kernel, by decide +kernel, by decide +kernel⟩
theorem sm_X4_moneyAt : Cond.static mX4_moneyAt.1 ∈ TB := w3_78
theorem oc_X4_isRing : okC mX4_isRing 2 := ⟨⟨by decide +kernel, by decide +kernel⟩, w3_76, w1_9, by decide +kernel, by decide +kernel, by decide +kernel⟩
theorem sm_X4_isRing : Cond.static mX4_isRing.1 ∈ TB := w3_75
theorem oc_X4_offer : okC mX4_offer 3 := ⟨⟨by decide +kernel, by decide +kernel⟩, w3_83, w1_9, by decide +kernel, by decide +kernel, by decide +kernel⟩
theorem im_X4_offer : Cond.instanceMethod mX4_offer.1 ∈ TB := w3_82
theorem se_X4_offer : Cond.selects mX4_offer.1.cls mX4_offer.1 mX4_offer.1 ∈ TB := tb_p 42 rfl rfl
theorem oc_X5_takeIn : okC mX5_takeIn 3 := ⟨⟨by decide +kernel, by decide +kernel⟩, w3_124, w1_10, by decide +kernel, by decide +kernel, by decide +kernel⟩
theorem im_X5_takeIn : Cond.instanceMethod mX5_takeIn.1 ∈ TB := w3_123
theorem se_X5_takeIn : Cond.selects mX5_takeIn.1.cls mX5_takeIn.1 mX5_takeIn.1 ∈ TB := tb_p 46 rfl rfl
theorem oc_X5_giveOut : okC mX5_giveOut 3 := ⟨⟨by decide +kernel, by decide +kernel⟩, w3_143, w1_10, by decide +kernel, by decide +kernel, by decide +kernel⟩
theorem im_X5_giveOut : Cond.instanceMethod mX5_giveOut.1 ∈ TB := w3_142
theorem se_X5_giveOut : Cond.selects mX5_giveOut.1.cls mX5_giveOut.1 mX5_giveOut.1 ∈ TB := tb_p 49 rfl rfl
theorem oc_X6_get : okC mX6_get 2 := ⟨⟨by decide +kernel, by decide +kernel⟩, w2_40, w1_3, by decide +kernel, by decide +kernel, by decide +kernel⟩
theorem im_X6_get : Cond.instanceMethod mX6_get.1 ∈ TB := w2_39
theorem se_X6_get : Cond.selects mX6_get.1.cls mX6_get.1 mX6_get.1 ∈ TB := tb_p 9 rfl rfl
theorem oc_X6_set : okC mX6_set 3 := ⟨⟨by decide +kernel, by decide +kernel⟩, w2_32, w1_3, by decide +kernel, by decide +kernel, by decide +kernel⟩
theorem im_X6_set : Cond.instanceMethod mX6_set.1 ∈ TB := w2_31
theorem se_X6_set : Cond.selects mX6_set.1.cls mX6_set.1 mX6_set.1 ∈ TB := tb_p 7 rfl rfl
theorem oc_X6_add : okC mX6_add 3 := ⟨⟨by decide +kernel, by decide +kernel⟩, w2_28, w1_3, by decide +kernel, by decide +kernel, by decide +kernel⟩
theorem im_X6_add : Cond.instanceMethod mX6_add.1 ∈ TB := w2_27
theorem se_X6_add : Cond.selects mX6_add.1.cls mX6_add.1 mX6_add.1 ∈ TB := tb_p 6 rfl rfl
theorem oc_X6_passTo : okC mX6_passTo 2 := ⟨⟨by decide +kernel, by decide +kernel⟩, w2_36, w1_3, by decide +kernel, by decide +kernel, by decide +kernel⟩
theorem im_X6_passTo : Cond.instanceMethod mX6_passTo.1 ∈ TB := w2_35
theorem se_X6_passTo : Cond.selects mX6_passTo.1.cls mX6_passTo.1 mX6_passTo.1 ∈ TB := tb_p 8 rfl rfl
theorem oc_X6_traceOf : okC mX6_traceOf 2 := ⟨⟨by decide +kernel, by decide +kernel⟩, w3_15, w1_3, by decide +kernel, by decide +kernel, by decide +kernel⟩
theorem im_X6_traceOf : Cond.instanceMethod mX6_traceOf.1 ∈ TB := w3_14
theorem se_X6_traceOf : Cond.selects mX6_traceOf.1.cls mX6_traceOf.1 mX6_traceOf.1 ∈ TB := tb_p 36 rfl rfl
theorem oc_X6_wearDown : okC mX6_wearDown 1 := ⟨⟨by decide +kernel, by decide +kernel⟩, w2_113, w1_3, by decide +kernel, by decide +kernel, by decide +kernel⟩
theorem im_X6_wearDown : Cond.instanceMethod mX6_wearDown.1 ∈ TB := w2_112
theorem se_X6_wearDown : Cond.selects mX6_wearDown.1.cls mX6_wearDown.1 mX6_wearDown.1 ∈ TB := tb_p 20 rfl rfl
theorem oc_X6_ownedBy : okC mX6_ownedBy 1 := ⟨⟨by decide +kernel, by decide +kernel⟩, w2_101, w1_3, by decide +kernel, by decide +kernel, by decide +kernel⟩
theorem im_X6_ownedBy : Cond.instanceMethod mX6_ownedBy.1 ∈ TB := w2_100
theorem se_X6_ownedBy : Cond.selects mX6_ownedBy.1.cls mX6_ownedBy.1 mX6_ownedBy.1 ∈ TB := tb_p 18 rfl rfl
theorem oc_X6_fakes : okC mX6_fakes 0 := ⟨⟨by decide +kernel, by decide +kernel⟩, w2_57, w1_3, by decide +kernel, by decide +kernel, by decide +kernel⟩
theorem im_X6_fakes : Cond.instanceMethod mX6_fakes.1 ∈ TB := w2_56
theorem se_X6_fakes : Cond.selects mX6_fakes.1.cls mX6_fakes.1 mX6_fakes.1 ∈ TB := tb_p 11 rfl rfl
theorem oc_X6_wearTooMuch : okC mX6_wearTooMuch 1 := ⟨⟨by decide +kernel, by decide +kernel⟩, w3_102, w1_3, by decide +kernel, by decide +kernel, by decide +kernel⟩
theorem im_X6_wearTooMuch : Cond.instanceMethod mX6_wearTooMuch.1 ∈ TB := w3_101
theorem se_X6_wearTooMuch : Cond.selects mX6_wearTooMuch.1.cls mX6_wearTooMuch.1 mX6_wearTooMuch.1 ∈ TB := tb_p 43 rfl rfl
theorem oc_X6_wearTooMuchOf : okC mX6_wearTooMuchOf 1 := ⟨⟨by decide +kernel, by decide +kernel⟩, w3_111, w1_3, by decide +kernel, by decide +kernel, by decide +kernel⟩
theorem im_X6_wearTooMuchOf : Cond.instanceMethod mX6_wearTooMuchOf.1 ∈ TB := w3_110
theorem se_X6_wearTooMuchOf : Cond.selects mX6_wearTooMuchOf.1.cls mX6_wearTooMuchOf.1 mX6_wearTooMuchOf.1 ∈ TB := tb_p 44 rfl rfl
theorem oc_X6_copyFrom : okC mX6_copyFrom 1 := ⟨⟨by decide +kernel, by decide +kernel⟩, w2_173, w1_3, by decide +kernel, by decide +kernel, by decide +kernel⟩
theorem im_X6_copyFrom : Cond.instanceMethod mX6_copyFrom.1 ∈ TB := w2_172
theorem se_X6_copyFrom : Cond.selects mX6_copyFrom.1.cls mX6_copyFrom.1 mX6_copyFrom.1 ∈ TB := tb_p 27 rfl rfl
theorem oc_X6_takeBack : okC mX6_takeBack 1 := ⟨⟨by decide +kernel, by decide +kernel⟩, w2_197, w1_3, by decide +kernel, by decide +kernel, by decide +kernel⟩
theorem im_X6_takeBack : Cond.instanceMethod mX6_takeBack.1 ∈ TB := w2_196
theorem se_X6_takeBack : Cond.selects mX6_takeBack.1.cls mX6_takeBack.1 mX6_takeBack.1 ∈ TB := tb_p 31 rfl rfl
theorem oc_X6_copyCells : okC mX6_copyCells 3 := ⟨⟨by decide +kernel, by decide +kernel⟩, w2_177, w1_3, by decide +kernel, by decide +kernel, by decide +kernel⟩
theorem im_X6_copyCells : Cond.instanceMethod mX6_copyCells.1 ∈ TB := w2_176
theorem se_X6_copyCells : Cond.selects mX6_copyCells.1.cls mX6_copyCells.1 mX6_copyCells.1 ∈ TB := tb_p 28 rfl rfl
theorem oc_X7_append : okC mX7_append 1 := ⟨⟨by decide +kernel, by decide +kernel⟩, w1_220, w1_2, by decide +kernel, by decide +kernel, by decide +kernel⟩
theorem im_X7_append : Cond.instanceMethod mX7_append.1 ∈ TB := w1_219
theorem se_X7_append : Cond.selects mX7_append.1.cls mX7_append.1 mX7_append.1 ∈ TB := tb_p 0 rfl rfl
theorem oc_X7_byteAt : okC mX7_byteAt 1 := ⟨⟨by decide +kernel, by decide +kernel⟩, w1_236, w1_2, by decide +kernel, by decide +kernel, by decide +kernel⟩
theorem im_X7_byteAt : Cond.instanceMethod mX7_byteAt.1 ∈ TB := w1_235
theorem se_X7_byteAt : Cond.selects mX7_byteAt.1.cls mX7_byteAt.1 mX7_byteAt.1 ∈ TB := tb_p 2 rfl rfl
theorem oc_X7_figureAt : okC mX7_figureAt 1 := ⟨⟨by decide +kernel, by decide +kernel⟩, w2_4, w1_2, by decide +kernel, by decide +kernel, by decide +kernel⟩
theorem im_X7_figureAt : Cond.instanceMethod mX7_figureAt.1 ∈ TB := w2_3
theorem se_X7_figureAt : Cond.selects mX7_figureAt.1.cls mX7_figureAt.1 mX7_figureAt.1 ∈ TB := tb_p 4 rfl rfl
theorem oc_X7_tellsTooth : okC mX7_tellsTooth 1 := ⟨⟨by decide +kernel, by decide +kernel⟩, w2_7, w1_2, by decide +kernel, by decide +kernel, by decide +kernel⟩
theorem sm_X7_tellsTooth : Cond.static mX7_tellsTooth.1 ∈ TB := w2_6
theorem oc_X7_partLength : okC mX7_partLength 1 := ⟨⟨by decide +kernel, by decide +kernel⟩, w2_13, w1_2, by decide +kernel, by decide +kernel, by decide +kernel⟩
theorem sm_X7_partLength : Cond.static mX7_partLength.1 ∈ TB := w2_12
theorem oc_X7_faultPlace : okC mX7_faultPlace 0 := ⟨⟨by decide +kernel, by decide +kernel⟩, w1_232, w1_2, by decide +kernel, by decide +kernel, by decide +kernel⟩
theorem im_X7_faultPlace : Cond.instanceMethod mX7_faultPlace.1 ∈ TB := w1_231
theorem se_X7_faultPlace : Cond.selects mX7_faultPlace.1.cls mX7_faultPlace.1 mX7_faultPlace.1 ∈ TB := tb_p 1 rfl rfl
theorem oc_X7_mayBegin : okC mX7_mayBegin 3 := ⟨⟨by decide +kernel, by decide +kernel⟩, w2_10, w1_2, by decide +kernel, by decide +kernel, by decide +kernel⟩
theorem sm_X7_mayBegin : Cond.static mX7_mayBegin.1 ∈ TB := w2_9
theorem oc_X7_mayFollow : okC mX7_mayFollow 3 := ⟨⟨by decide +kernel, by decide +kernel⟩, w2_0, w1_2, by decide +kernel, by decide +kernel, by decide +kernel⟩
theorem im_X7_mayFollow : Cond.instanceMethod mX7_mayFollow.1 ∈ TB := w1_239
theorem se_X7_mayFollow : Cond.selects mX7_mayFollow.1.cls mX7_mayFollow.1 mX7_mayFollow.1 ∈ TB := tb_p 3 rfl rfl
theorem oc_X8_write : okC mX8_write 2 := ⟨⟨by decide +kernel, by decide +kernel⟩, w1_216, w1_1, by decide +kernel, by decide +kernel, by decide +kernel⟩
theorem im_X8_write : Cond.instanceMethod mX8_write.1 ∈ TB := w1_214
theorem se_X8_write : Cond.selects mX8_write.1.cls mX8_write.1 mX8_write.1 ∈ TB := w1_215
theorem oc_X8_wipe : okC mX8_wipe 0 := ⟨⟨by decide +kernel, by decide +kernel⟩, w1_224, w1_1, by decide +kernel, by decide +kernel, by decide +kernel⟩
theorem im_X8_wipe : Cond.instanceMethod mX8_wipe.1 ∈ TB := w1_222
theorem se_X8_wipe : Cond.selects mX8_wipe.1.cls mX8_wipe.1 mX8_wipe.1 ∈ TB := w1_223
theorem oc_X8_fault : okC mX8_fault 0 := ⟨⟨by decide +kernel, by decide +kernel⟩, w1_228, w1_1, by decide +kernel, by decide +kernel, by decide +kernel⟩
theorem im_X8_fault : Cond.instanceMethod mX8_fault.1 ∈ TB := w1_226
theorem se_X8_fault : Cond.selects mX8_fault.1.cls mX8_fault.1 mX8_fault.1 ∈ TB := w1_227
theorem oc_X8_market : okC mX8_market 0 := ⟨⟨by decide +kernel, by decide +kernel⟩, w2_17, w1_1, by decide +kernel, by decide +kernel, by decide +kernel⟩
theorem im_X8_market : Cond.instanceMethod mX8_market.1 ∈ TB := w2_15
theorem se_X8_market : Cond.selects mX8_market.1.cls mX8_market.1 mX8_market.1 ∈ TB := w2_16
theorem oc_X8_about : okC mX8_about 1 := ⟨⟨by decide +kernel, by decide +kernel⟩, w2_53, w1_1, by decide +kernel, by decide +kernel, by decide +kernel⟩
theorem im_X8_about : Cond.instanceMethod mX8_about.1 ∈ TB := w2_51
theorem se_X8_about : Cond.selects mX8_about.1.cls mX8_about.1 mX8_about.1 ∈ TB := w2_52
theorem oc_X8_tooth : okC mX8_tooth 2 := ⟨⟨by decide +kernel, by decide +kernel⟩, w2_61, w1_1, by decide +kernel, by decide +kernel, by decide +kernel⟩
theorem im_X8_tooth : Cond.instanceMethod mX8_tooth.1 ∈ TB := w2_59
theorem se_X8_tooth : Cond.selects mX8_tooth.1.cls mX8_tooth.1 mX8_tooth.1 ∈ TB := w2_60
theorem oc_X8_good : okC mX8_good 2 := ⟨⟨by decide +kernel, by decide +kernel⟩, w2_78, w1_1, by decide +kernel, by decide +kernel, by decide +kernel⟩
theorem im_X8_good : Cond.instanceMethod mX8_good.1 ∈ TB := w2_76
theorem se_X8_good : Cond.selects mX8_good.1.cls mX8_good.1 mX8_good.1 ∈ TB := w2_77
theorem oc_X8_purse : okC mX8_purse 1 := ⟨⟨by decide +kernel, by decide +kernel⟩, w2_94, w1_1, by decide +kernel, by decide +kernel, by decide +kernel⟩
theorem im_X8_purse : Cond.instanceMethod mX8_purse.1 ∈ TB := w2_92
theorem se_X8_purse : Cond.selects mX8_purse.1.cls mX8_purse.1 mX8_purse.1 ∈ TB := w2_93
theorem oc_X8_handle : okC mX8_handle 1 := ⟨⟨by decide +kernel, by decide +kernel⟩, w2_109, w1_1, by decide +kernel, by decide +kernel, by decide +kernel⟩
theorem im_X8_handle : Cond.instanceMethod mX8_handle.1 ∈ TB := w2_107
theorem se_X8_handle : Cond.selects mX8_handle.1.cls mX8_handle.1 mX8_handle.1 ∈ TB := w2_108
theorem oc_X8_bite : okC mX8_bite 1 := ⟨⟨by decide +kernel, by decide +kernel⟩, w2_120, w1_1, by decide +kernel, by decide +kernel, by decide +kernel⟩
theorem im_X8_bite : Cond.instanceMethod mX8_bite.1 ∈ TB := w2_118
theorem se_X8_bite : Cond.selects mX8_bite.1.cls mX8_bite.1 mX8_bite.1 ∈ TB := w2_119
theorem oc_X8_fewest : okC mX8_fewest 3 := ⟨⟨by decide +kernel, by decide +kernel⟩, w2_124, w1_1, by decide +kernel, by decide +kernel, by decide +kernel⟩
theorem im_X8_fewest : Cond.instanceMethod mX8_fewest.1 ∈ TB := w2_122
theorem se_X8_fewest : Cond.selects mX8_fewest.1.cls mX8_fewest.1 mX8_fewest.1 ∈ TB := w2_123
theorem oc_X8_paid : okC mX8_paid 4 := ⟨⟨by decide +kernel, by decide +kernel⟩, w2_161, w1_1, by decide +kernel, by decide +kernel, by decide +kernel⟩
theorem im_X8_paid : Cond.instanceMethod mX8_paid.1 ∈ TB := w2_159
theorem se_X8_paid : Cond.selects mX8_paid.1.cls mX8_paid.1 mX8_paid.1 ∈ TB := w2_160
theorem oc_X8_pay : okC mX8_pay 3 := ⟨⟨by decide +kernel, by decide +kernel⟩, w2_165, w1_1, by decide +kernel, by decide +kernel, by decide +kernel⟩
theorem im_X8_pay : Cond.instanceMethod mX8_pay.1 ∈ TB := w2_163
theorem se_X8_pay : Cond.selects mX8_pay.1.cls mX8_pay.1 mX8_pay.1 ∈ TB := w2_164
theorem oc_X8_undo : okC mX8_undo 0 := ⟨⟨by decide +kernel, by decide +kernel⟩, w2_189, w1_1, by decide +kernel, by decide +kernel, by decide +kernel⟩
theorem im_X8_undo : Cond.instanceMethod mX8_undo.1 ∈ TB := w2_187
theorem se_X8_undo : Cond.selects mX8_undo.1.cls mX8_undo.1 mX8_undo.1 ∈ TB := w2_188
theorem oc_X8_tooMuch : okC mX8_tooMuch 3 := ⟨⟨by decide +kernel, by decide +kernel⟩, w2_201, w1_1, by decide +kernel, by decide +kernel, by decide +kernel⟩
theorem im_X8_tooMuch : Cond.instanceMethod mX8_tooMuch.1 ∈ TB := w2_199
theorem se_X8_tooMuch : Cond.selects mX8_tooMuch.1.cls mX8_tooMuch.1 mX8_tooMuch.1 ∈ TB := w2_200
theorem oc_X8_sums : okC mX8_sums 3 := ⟨⟨by decide +kernel, by decide +kernel⟩, w2_209, w1_1, by decide +kernel, by decide +kernel, by decide +kernel⟩
theorem im_X8_sums : Cond.instanceMethod mX8_sums.1 ∈ TB := w2_207
theorem se_X8_sums : Cond.selects mX8_sums.1.cls mX8_sums.1 mX8_sums.1 ∈ TB := w2_208
theorem oc_X8_spent : okC mX8_spent 2 := ⟨⟨by decide +kernel, by decide +kernel⟩, w2_214, w1_1, by decide +kernel, by decide +kernel, by decide +kernel⟩
theorem im_X8_spent : Cond.instanceMethod mX8_spent.1 ∈ TB := w2_212
theorem se_X8_spent : Cond.selects mX8_spent.1.cls mX8_spent.1 mX8_spent.1 ∈ TB := w2_213
theorem oc_X8_caught : okC mX8_caught 2 := ⟨⟨by decide +kernel, by decide +kernel⟩, w2_228, w1_1, by decide +kernel, by decide +kernel, by decide +kernel⟩
theorem im_X8_caught : Cond.instanceMethod mX8_caught.1 ∈ TB := w2_226
theorem se_X8_caught : Cond.selects mX8_caught.1.cls mX8_caught.1 mX8_caught.1 ∈ TB := w2_227
theorem oc_X8_washed : okC mX8_washed 2 := ⟨⟨by decide +kernel, by decide +kernel⟩, w3_3, w1_1, by decide +kernel, by decide +kernel, by decide +kernel⟩
theorem im_X8_washed : Cond.instanceMethod mX8_washed.1 ∈ TB := w3_1
theorem se_X8_washed : Cond.selects mX8_washed.1.cls mX8_washed.1 mX8_washed.1 ∈ TB := w3_2
theorem oc_X8_life : okC mX8_life 2 := ⟨⟨by decide +kernel, by decide +kernel⟩, w3_7, w1_1, by decide +kernel, by decide +kernel, by decide +kernel⟩
theorem im_X8_life : Cond.instanceMethod mX8_life.1 ∈ TB := w3_5
theorem se_X8_life : Cond.selects mX8_life.1.cls mX8_life.1 mX8_life.1 ∈ TB := w3_6
theorem oc_X8_trace : okC mX8_trace 2 := ⟨⟨by decide +kernel, by decide +kernel⟩, w3_11, w1_1, by decide +kernel, by decide +kernel, by decide +kernel⟩
theorem im_X8_trace : Cond.instanceMethod mX8_trace.1 ∈ TB := w3_9
theorem se_X8_trace : Cond.selects mX8_trace.1.cls mX8_trace.1 mX8_trace.1 ∈ TB := w3_10
theorem oc_X8_inflated : okC mX8_inflated 2 := ⟨⟨by decide +kernel, by decide +kernel⟩, w3_19, w1_1, by decide +kernel, by decide +kernel, by decide +kernel⟩
theorem im_X8_inflated : Cond.instanceMethod mX8_inflated.1 ∈ TB := w3_17
theorem se_X8_inflated : Cond.selects mX8_inflated.1.cls mX8_inflated.1 mX8_inflated.1 ∈ TB := w3_18
theorem oc_X8_doubt : okC mX8_doubt 6 := ⟨⟨by decide +kernel, by decide +kernel⟩, w3_23, w1_1, by decide +kernel, by decide +kernel, by decide +kernel⟩
theorem im_X8_doubt : Cond.instanceMethod mX8_doubt.1 ∈ TB := w3_21
theorem se_X8_doubt : Cond.selects mX8_doubt.1.cls mX8_doubt.1 mX8_doubt.1 ∈ TB := w3_22
theorem oc_X8_among : okC mX8_among 4 := ⟨⟨by decide +kernel, by decide +kernel⟩, w3_41, w1_1, by decide +kernel, by decide +kernel, by decide +kernel⟩
theorem im_X8_among : Cond.instanceMethod mX8_among.1 ∈ TB := w3_39
theorem se_X8_among : Cond.selects mX8_among.1.cls mX8_among.1 mX8_among.1 ∈ TB := w3_40
theorem oc_X8_rate : okC mX8_rate 4 := ⟨⟨by decide +kernel, by decide +kernel⟩, w3_46, w1_1, by decide +kernel, by decide +kernel, by decide +kernel⟩
theorem im_X8_rate : Cond.instanceMethod mX8_rate.1 ∈ TB := w3_44
theorem se_X8_rate : Cond.selects mX8_rate.1.cls mX8_rate.1 mX8_rate.1 ∈ TB := w3_45
theorem oc_X8_ring : okC mX8_ring 1 := ⟨⟨by decide +kernel, by decide +kernel⟩, w3_65, w1_1, by decide +kernel, by decide +kernel, by decide +kernel⟩
theorem im_X8_ring : Cond.instanceMethod mX8_ring.1 ∈ TB := w3_63
theorem se_X8_ring : Cond.selects mX8_ring.1.cls mX8_ring.1 mX8_ring.1 ∈ TB := w3_64
theorem oc_X8_ringAt : okC mX8_ringAt 1 := ⟨⟨by decide +kernel, by decide +kernel⟩, w3_89, w1_1, by decide +kernel, by decide +kernel, by decide +kernel⟩
theorem im_X8_ringAt : Cond.instanceMethod mX8_ringAt.1 ∈ TB := w3_87
theorem se_X8_ringAt : Cond.selects mX8_ringAt.1.cls mX8_ringAt.1 mX8_ringAt.1 ∈ TB := w3_88
theorem oc_X8_should : okC mX8_should 2 := ⟨⟨by decide +kernel, by decide +kernel⟩, w3_94, w1_1, by decide +kernel, by decide +kernel, by decide +kernel⟩
theorem im_X8_should : Cond.instanceMethod mX8_should.1 ∈ TB := w3_92
theorem se_X8_should : Cond.selects mX8_should.1.cls mX8_should.1 mX8_should.1 ∈ TB := w3_93
theorem oc_X8_stolen : okC mX8_stolen 0 := ⟨⟨by decide +kernel, by decide +kernel⟩, w3_98, w1_1, by decide +kernel, by decide +kernel, by decide +kernel⟩
theorem im_X8_stolen : Cond.instanceMethod mX8_stolen.1 ∈ TB := w3_96
theorem se_X8_stolen : Cond.selects mX8_stolen.1.cls mX8_stolen.1 mX8_stolen.1 ∈ TB := w3_97
theorem oc_X8_thief : okC mX8_thief 0 := ⟨⟨by decide +kernel, by decide +kernel⟩, w3_107, w1_1, by decide +kernel, by decide +kernel, by decide +kernel⟩
theorem im_X8_thief : Cond.instanceMethod mX8_thief.1 ∈ TB := w3_105
theorem se_X8_thief : Cond.selects mX8_thief.1.cls mX8_thief.1 mX8_thief.1 ∈ TB := w3_106
theorem oc_X8_keep : okC mX8_keep 1 := ⟨⟨by decide +kernel, by decide +kernel⟩, w3_116, w1_1, by decide +kernel, by decide +kernel, by decide +kernel⟩
theorem im_X8_keep : Cond.instanceMethod mX8_keep.1 ∈ TB := w3_114
theorem se_X8_keep : Cond.selects mX8_keep.1.cls mX8_keep.1 mX8_keep.1 ∈ TB := w3_115
theorem oc_X8_again : okC mX8_again 1 := ⟨⟨by decide +kernel, by decide +kernel⟩, w3_139, w1_1, by decide +kernel, by decide +kernel, by decide +kernel⟩
theorem im_X8_again : Cond.instanceMethod mX8_again.1 ∈ TB := w3_137
theorem se_X8_again : Cond.selects mX8_again.1.cls mX8_again.1 mX8_again.1 ∈ TB := w3_138
theorem oc_X8_isTooth : okC mX8_isTooth 1 := ⟨⟨by decide +kernel, by decide +kernel⟩, w2_65, w1_1, by decide +kernel, by decide +kernel, by decide +kernel⟩
theorem im_X8_isTooth : Cond.instanceMethod mX8_isTooth.1 ∈ TB := w2_64
theorem se_X8_isTooth : Cond.selects mX8_isTooth.1.cls mX8_isTooth.1 mX8_isTooth.1 ∈ TB := tb_p 12 rfl rfl
theorem oc_X8_isGood : okC mX8_isGood 1 := ⟨⟨by decide +kernel, by decide +kernel⟩, w2_82, w1_1, by decide +kernel, by decide +kernel, by decide +kernel⟩
theorem im_X8_isGood : Cond.instanceMethod mX8_isGood.1 ∈ TB := w2_81
theorem se_X8_isGood : Cond.selects mX8_isGood.1.cls mX8_isGood.1 mX8_isGood.1 ∈ TB := tb_p 15 rfl rfl
theorem oc_X8_isSlot : okC mX8_isSlot 1 := ⟨⟨by decide +kernel, by decide +kernel⟩, w3_120, w1_1, by decide +kernel, by decide +kernel, by decide +kernel⟩
theorem im_X8_isSlot : Cond.instanceMethod mX8_isSlot.1 ∈ TB := w3_119
theorem se_X8_isSlot : Cond.selects mX8_isSlot.1.cls mX8_isSlot.1 mX8_isSlot.1 ∈ TB := tb_p 45 rfl rfl
theorem oc_X8_isPerson : okC mX8_isPerson 1 := ⟨⟨by decide +kernel, by decide +kernel⟩, w2_97, w1_1, by decide +kernel, by decide +kernel, by decide +kernel⟩
theorem sm_X8_isPerson : Cond.static mX8_isPerson.1 ∈ TB := w2_96
theorem oc_X8_isMoney : okC mX8_isMoney 1 := ⟨⟨by decide +kernel, by decide +kernel⟩, w3_49, w1_1, by decide +kernel, by decide +kernel, by decide +kernel⟩
theorem sm_X8_isMoney : Cond.static mX8_isMoney.1 ∈ TB := w3_48
theorem oc_X8_isPrice : okC mX8_isPrice 1 := ⟨⟨by decide +kernel, by decide +kernel⟩, w2_130, w1_1, by decide +kernel, by decide +kernel, by decide +kernel⟩
theorem sm_X8_isPrice : Cond.static mX8_isPrice.1 ∈ TB := w2_129
theorem oc_X8_isTenths : okC mX8_isTenths 1 := ⟨⟨by decide +kernel, by decide +kernel⟩, w3_26, w1_1, by decide +kernel, by decide +kernel, by decide +kernel⟩
theorem sm_X8_isTenths : Cond.static mX8_isTenths.1 ∈ TB := w3_25
theorem oc_X8_paymentRefusal : okC mX8_paymentRefusal 3 := ⟨⟨by decide +kernel, by decide +kernel⟩, w2_127, w1_1, by decide +kernel, by decide +kernel, by decide +kernel⟩
theorem sm_X8_paymentRefusal : Cond.static mX8_paymentRefusal.1 ∈ TB := w2_126
theorem oc_X8_readPart : okC mX8_readPart 1 := ⟨⟨by decide +kernel, by decide +kernel⟩, w2_22, w1_1, by decide +kernel, by decide +kernel, by decide +kernel⟩
theorem im_X8_readPart : Cond.instanceMethod mX8_readPart.1 ∈ TB := w2_21
theorem se_X8_readPart : Cond.selects mX8_readPart.1.cls mX8_readPart.1 mX8_readPart.1 ∈ TB := tb_p 5 rfl rfl
theorem oc_X8_worthWorn : okC mX8_worthWorn 2 := ⟨⟨by decide +kernel, by decide +kernel⟩, w2_74, w1_1, by decide +kernel, by decide +kernel, by decide +kernel⟩
theorem im_X8_worthWorn : Cond.instanceMethod mX8_worthWorn.1 ∈ TB := w2_73
theorem se_X8_worthWorn : Cond.selects mX8_worthWorn.1.cls mX8_worthWorn.1 mX8_worthWorn.1 ∈ TB := tb_p 14 rfl rfl
theorem oc_X8_worthOf : okC mX8_worthOf 1 := ⟨⟨by decide +kernel, by decide +kernel⟩, w2_70, w1_1, by decide +kernel, by decide +kernel, by decide +kernel⟩
theorem im_X8_worthOf : Cond.instanceMethod mX8_worthOf.1 ∈ TB := w2_69
theorem se_X8_worthOf : Cond.selects mX8_worthOf.1.cls mX8_worthOf.1 mX8_worthOf.1 ∈ TB := tb_p 13 rfl rfl
theorem oc_X8_worthOfSet : okC mX8_worthOfSet 1 := ⟨⟨by decide +kernel, by decide +kernel⟩, w2_105, w1_1, by decide +kernel, by decide +kernel, by decide +kernel⟩
theorem im_X8_worthOfSet : Cond.instanceMethod mX8_worthOfSet.1 ∈ TB := w2_104
theorem se_X8_worthOfSet : Cond.selects mX8_worthOfSet.1.cls mX8_worthOfSet.1 mX8_worthOfSet.1 ∈ TB := tb_p 19 rfl rfl
theorem oc_X8_setsOfTeeth : okC mX8_setsOfTeeth 0 := ⟨⟨by decide +kernel, by decide +kernel⟩, w2_146, w1_1, by decide +kernel, by decide +kernel, by decide +kernel⟩
theorem im_X8_setsOfTeeth : Cond.instanceMethod mX8_setsOfTeeth.1 ∈ TB := w2_145
theorem se_X8_setsOfTeeth : Cond.selects mX8_setsOfTeeth.1.cls mX8_setsOfTeeth.1 mX8_setsOfTeeth.1 ∈ TB := tb_p 24 rfl rfl
theorem oc_X8_weighSets : okC mX8_weighSets 1 := ⟨⟨by decide +kernel, by decide +kernel⟩, w2_138, w1_1, by decide +kernel, by decide +kernel, by decide +kernel⟩
theorem im_X8_weighSets : Cond.instanceMethod mX8_weighSets.1 ∈ TB := w2_137
theorem se_X8_weighSets : Cond.selects mX8_weighSets.1.cls mX8_weighSets.1 mX8_weighSets.1 ∈ TB := tb_p 22 rfl rfl
theorem oc_X8_seekFewest : okC mX8_seekFewest 3 := ⟨⟨by decide +kernel, by decide +kernel⟩, w2_134, w1_1, by decide +kernel, by decide +kernel, by decide +kernel⟩
theorem im_X8_seekFewest : Cond.instanceMethod mX8_seekFewest.1 ∈ TB := w2_133
theorem se_X8_seekFewest : Cond.selects mX8_seekFewest.1.cls mX8_seekFewest.1 mX8_seekFewest.1 ∈ TB := tb_p 21 rfl rfl
theorem oc_X8_seekTooMuch : okC mX8_seekTooMuch 2 := ⟨⟨by decide +kernel, by decide +kernel⟩, w2_205, w1_1, by decide +kernel, by decide +kernel, by decide +kernel⟩
theorem im_X8_seekTooMuch : Cond.instanceMethod mX8_seekTooMuch.1 ∈ TB := w2_204
theorem se_X8_seekTooMuch : Cond.selects mX8_seekTooMuch.1.cls mX8_seekTooMuch.1 mX8_seekTooMuch.1 ∈ TB := tb_p 32 rfl rfl
theorem oc_X8_handOver : okC mX8_handOver 2 := ⟨⟨by decide +kernel, by decide +kernel⟩, w2_184, w1_1, by decide +kernel, by decide +kernel, by decide +kernel⟩
theorem im_X8_handOver : Cond.instanceMethod mX8_handOver.1 ∈ TB := w2_183
theorem se_X8_handOver : Cond.selects mX8_handOver.1.cls mX8_handOver.1 mX8_handOver.1 ∈ TB := tb_p 29 rfl rfl
theorem oc_X8_drawFrom : okC mX8_drawFrom 1 := ⟨⟨by decide +kernel, by decide +kernel⟩, w2_231, w1_1, by decide +kernel, by decide +kernel, by decide +kernel⟩
theorem sm_X8_drawFrom : Cond.static mX8_drawFrom.1 ∈ TB := w2_230
theorem oc_X8_addDrawn : okC mX8_addDrawn 2 := ⟨⟨by decide +kernel, by decide +kernel⟩, w2_237, w1_1, by decide +kernel, by decide +kernel, by decide +kernel⟩
theorem im_X8_addDrawn : Cond.instanceMethod mX8_addDrawn.1 ∈ TB := w2_236
theorem se_X8_addDrawn : Cond.selects mX8_addDrawn.1.cls mX8_addDrawn.1 mX8_addDrawn.1 ∈ TB := tb_p 35 rfl rfl
theorem oc_X8_power : okC mX8_power 2 := ⟨⟨by decide +kernel, by decide +kernel⟩, w3_30, w1_1, by decide +kernel, by decide +kernel, by decide +kernel⟩
theorem sm_X8_power : Cond.static mX8_power.1 ∈ TB := w3_29
theorem oc_X8_ofFraction : okC mX8_ofFraction 3 := ⟨⟨by decide +kernel, by decide +kernel⟩, w3_34, w1_1, by decide +kernel, by decide +kernel, by decide +kernel⟩
theorem sm_X8_ofFraction : Cond.static mX8_ofFraction.1 ∈ TB := w3_33
theorem oc_X8_commonDivisor : okC mX8_commonDivisor 2 := ⟨⟨by decide +kernel, by decide +kernel⟩, w3_37, w1_1, by decide +kernel, by decide +kernel, by decide +kernel⟩
theorem sm_X8_commonDivisor : Cond.static mX8_commonDivisor.1 ∈ TB := w3_36
theorem oc_X8_seekRing : okC mX8_seekRing 0 := ⟨⟨by decide +kernel, by decide +kernel⟩, w3_69, w1_1, by decide +kernel, by decide +kernel, by decide +kernel⟩
theorem im_X8_seekRing : Cond.instanceMethod mX8_seekRing.1 ∈ TB := w3_68
theorem se_X8_seekRing : Cond.selects mX8_seekRing.1.cls mX8_seekRing.1 mX8_seekRing.1 ∈ TB := tb_p 40 rfl rfl
theorem oc_X9_in : okC mX9_in 3 := ⟨⟨by decide +kernel, by decide +kernel⟩, w4_63, w1_11, by decide +kernel, by decide +kernel, by decide +kernel⟩
theorem sm_X9_in : Cond.static mX9_in.1 ∈ TB := w4_62
theorem oc_X9_has : okC mX9_has 2 := ⟨⟨by decide +kernel, by decide +kernel⟩, w4_150, w1_11, by decide +kernel, by decide +kernel, by decide +kernel⟩
theorem sm_X9_has : Cond.static mX9_has.1 ∈ TB := w4_149
theorem oc_X9_many : okC mX9_many 1 := ⟨⟨by decide +kernel, by decide +kernel⟩, w4_177, w1_11, by decide +kernel, by decide +kernel, by decide +kernel⟩
theorem sm_X9_many : Cond.static mX9_many.1 ∈ TB := w4_176
theorem oc_X9_noTooth : okC mX9_noTooth 1 := ⟨⟨by decide +kernel, by decide +kernel⟩, w4_119, w1_11, by decide +kernel, by decide +kernel, by decide +kernel⟩
theorem im_X9_noTooth : Cond.instanceMethod mX9_noTooth.1 ∈ TB := w4_118
theorem se_X9_noTooth : Cond.selects mX9_noTooth.1.cls mX9_noTooth.1 mX9_noTooth.1 ∈ TB := tb_p 58 rfl rfl
theorem oc_X9_noOne : okC mX9_noOne 1 := ⟨⟨by decide +kernel, by decide +kernel⟩, w4_138, w1_11, by decide +kernel, by decide +kernel, by decide +kernel⟩
theorem sm_X9_noOne : Cond.static mX9_noOne.1 ∈ TB := w4_137
theorem oc_X9_write : okC mX9_write 2 := ⟨⟨by decide +kernel, by decide +kernel⟩, w4_59, w1_11, by decide +kernel, by decide +kernel, by decide +kernel⟩
theorem im_X9_write : Cond.instanceMethod mX9_write.1 ∈ TB := w4_57
theorem se_X9_write : Cond.selects mX9_write.1.cls mX9_write.1 mX9_write.1 ∈ TB := w4_58
theorem oc_X9_wipe : okC mX9_wipe 0 := ⟨⟨by decide +kernel, by decide +kernel⟩, w4_67, w1_11, by decide +kernel, by decide +kernel, by decide +kernel⟩
theorem im_X9_wipe : Cond.instanceMethod mX9_wipe.1 ∈ TB := w4_65
theorem se_X9_wipe : Cond.selects mX9_wipe.1.cls mX9_wipe.1 mX9_wipe.1 ∈ TB := w4_66
theorem oc_X9_figure : okC mX9_figure 2 := ⟨⟨by decide +kernel, by decide +kernel⟩, w4_79, w1_11, by decide +kernel, by decide +kernel, by decide +kernel⟩
theorem im_X9_figure : Cond.instanceMethod mX9_figure.1 ∈ TB := w4_78
theorem se_X9_figure : Cond.selects mX9_figure.1.cls mX9_figure.1 mX9_figure.1 ∈ TB := tb_p 51 rfl rfl
theorem oc_X9_side : okC mX9_side 0 := ⟨⟨by decide +kernel, by decide +kernel⟩, w4_91, w1_11, by decide +kernel, by decide +kernel, by decide +kernel⟩
theorem im_X9_side : Cond.instanceMethod mX9_side.1 ∈ TB := w4_90
theorem se_X9_side : Cond.selects mX9_side.1.cls mX9_side.1 mX9_side.1 ∈ TB := tb_p 54 rfl rfl
theorem oc_X9_readTooth : okC mX9_readTooth 1 := ⟨⟨by decide +kernel, by decide +kernel⟩, w4_87, w1_11, by decide +kernel, by decide +kernel, by decide +kernel⟩
theorem im_X9_readTooth : Cond.instanceMethod mX9_readTooth.1 ∈ TB := w4_86
theorem se_X9_readTooth : Cond.selects mX9_readTooth.1.cls mX9_readTooth.1 mX9_readTooth.1 ∈ TB := tb_p 53 rfl rfl
theorem oc_X9_readGood : okC mX9_readGood 0 := ⟨⟨by decide +kernel, by decide +kernel⟩, w4_95, w1_11, by decide +kernel, by decide +kernel, by decide +kernel⟩
theorem im_X9_readGood : Cond.instanceMethod mX9_readGood.1 ∈ TB := w4_94
theorem se_X9_readGood : Cond.selects mX9_readGood.1.cls mX9_readGood.1 mX9_readGood.1 ∈ TB := tb_p 55 rfl rfl
theorem oc_X9_readPart : okC mX9_readPart 0 := ⟨⟨by decide +kernel, by decide +kernel⟩, w4_83, w1_11, by decide +kernel, by decide +kernel, by decide +kernel⟩
theorem im_X9_readPart : Cond.instanceMethod mX9_readPart.1 ∈ TB := w4_82
theorem se_X9_readPart : Cond.selects mX9_readPart.1.cls mX9_readPart.1 mX9_readPart.1 ∈ TB := tb_p 52 rfl rfl
theorem oc_X9_readMarket : okC mX9_readMarket 0 := ⟨⟨by decide +kernel, by decide +kernel⟩, w4_75, w1_11, by decide +kernel, by decide +kernel, by decide +kernel⟩
theorem im_X9_readMarket : Cond.instanceMethod mX9_readMarket.1 ∈ TB := w4_74
theorem se_X9_readMarket : Cond.selects mX9_readMarket.1.cls mX9_readMarket.1 mX9_readMarket.1 ∈ TB := tb_p 50 rfl rfl
theorem oc_X9_fault : okC mX9_fault 0 := ⟨⟨by decide +kernel, by decide +kernel⟩, w4_71, w1_11, by decide +kernel, by decide +kernel, by decide +kernel⟩
theorem im_X9_fault : Cond.instanceMethod mX9_fault.1 ∈ TB := w4_69
theorem se_X9_fault : Cond.selects mX9_fault.1.cls mX9_fault.1 mX9_fault.1 ∈ TB := w4_70
theorem oc_X9_come : okC mX9_come 1 := ⟨⟨by decide +kernel, by decide +kernel⟩, w4_103, w1_11, by decide +kernel, by decide +kernel, by decide +kernel⟩
theorem im_X9_come : Cond.instanceMethod mX9_come.1 ∈ TB := w4_102
theorem se_X9_come : Cond.selects mX9_come.1.cls mX9_come.1 mX9_come.1 ∈ TB := tb_p 56 rfl rfl
theorem oc_X9_market : okC mX9_market 0 := ⟨⟨by decide +kernel, by decide +kernel⟩, w4_99, w1_11, by decide +kernel, by decide +kernel, by decide +kernel⟩
theorem im_X9_market : Cond.instanceMethod mX9_market.1 ∈ TB := w4_97
theorem se_X9_market : Cond.selects mX9_market.1.cls mX9_market.1 mX9_market.1 ∈ TB := w4_98
theorem oc_X9_fakes : okC mX9_fakes 0 := ⟨⟨by decide +kernel, by decide +kernel⟩, w4_111, w1_11, by decide +kernel, by decide +kernel, by decide +kernel⟩
theorem im_X9_fakes : Cond.instanceMethod mX9_fakes.1 ∈ TB := w4_110
theorem se_X9_fakes : Cond.selects mX9_fakes.1.cls mX9_fakes.1 mX9_fakes.1 ∈ TB := tb_p 57 rfl rfl
theorem oc_X9_about : okC mX9_about 1 := ⟨⟨by decide +kernel, by decide +kernel⟩, w4_107, w1_11, by decide +kernel, by decide +kernel, by decide +kernel⟩
theorem im_X9_about : Cond.instanceMethod mX9_about.1 ∈ TB := w4_105
theorem se_X9_about : Cond.selects mX9_about.1.cls mX9_about.1 mX9_about.1 ∈ TB := w4_106
theorem oc_X9_worthBy : okC mX9_worthBy 2 := ⟨⟨by decide +kernel, by decide +kernel⟩, w4_127, w1_11, by decide +kernel, by decide +kernel, by decide +kernel⟩
theorem im_X9_worthBy : Cond.instanceMethod mX9_worthBy.1 ∈ TB := w4_126
theorem se_X9_worthBy : Cond.selects mX9_worthBy.1.cls mX9_worthBy.1 mX9_worthBy.1 ∈ TB := tb_p 60 rfl rfl
theorem oc_X9_worth : okC mX9_worth 1 := ⟨⟨by decide +kernel, by decide +kernel⟩, w4_123, w1_11, by decide +kernel, by decide +kernel, by decide +kernel⟩
theorem im_X9_worth : Cond.instanceMethod mX9_worth.1 ∈ TB := w4_122
theorem se_X9_worth : Cond.selects mX9_worth.1.cls mX9_worth.1 mX9_worth.1 ∈ TB := tb_p 59 rfl rfl
theorem oc_X9_tooth : okC mX9_tooth 2 := ⟨⟨by decide +kernel, by decide +kernel⟩, w4_115, w1_11, by decide +kernel, by decide +kernel, by decide +kernel⟩
theorem im_X9_tooth : Cond.instanceMethod mX9_tooth.1 ∈ TB := w4_113
theorem se_X9_tooth : Cond.selects mX9_tooth.1.cls mX9_tooth.1 mX9_tooth.1 ∈ TB := w4_114
theorem oc_X9_good : okC mX9_good 2 := ⟨⟨by decide +kernel, by decide +kernel⟩, w4_131, w1_11, by decide +kernel, by decide +kernel, by decide +kernel⟩
theorem im_X9_good : Cond.instanceMethod mX9_good.1 ∈ TB := w4_129
theorem se_X9_good : Cond.selects mX9_good.1.cls mX9_good.1 mX9_good.1 ∈ TB := w4_130
theorem oc_X9_setOf : okC mX9_setOf 1 := ⟨⟨by decide +kernel, by decide +kernel⟩, w4_143, w1_11, by decide +kernel, by decide +kernel, by decide +kernel⟩
theorem im_X9_setOf : Cond.instanceMethod mX9_setOf.1 ∈ TB := w4_142
theorem se_X9_setOf : Cond.selects mX9_setOf.1.cls mX9_setOf.1 mX9_setOf.1 ∈ TB := tb_p 61 rfl rfl
theorem oc_X9_worthOf : okC mX9_worthOf 1 := ⟨⟨by decide +kernel, by decide +kernel⟩, w4_147, w1_11, by decide +kernel, by decide +kernel, by decide +kernel⟩
theorem im_X9_worthOf : Cond.instanceMethod mX9_worthOf.1 ∈ TB := w4_146
theorem se_X9_worthOf : Cond.selects mX9_worthOf.1.cls mX9_worthOf.1 mX9_worthOf.1 ∈ TB := tb_p 62 rfl rfl
theorem oc_X9_purse : okC mX9_purse 1 := ⟨⟨by decide +kernel, by decide +kernel⟩, w4_135, w1_11, by decide +kernel, by decide +kernel, by decide +kernel⟩
theorem im_X9_purse : Cond.instanceMethod mX9_purse.1 ∈ TB := w4_133
theorem se_X9_purse : Cond.selects mX9_purse.1.cls mX9_purse.1 mX9_purse.1 ∈ TB := w4_134
theorem oc_X9_goHandle : okC mX9_goHandle 1 := ⟨⟨by decide +kernel, by decide +kernel⟩, w4_158, w1_11, by decide +kernel, by decide +kernel, by decide +kernel⟩
theorem im_X9_goHandle : Cond.instanceMethod mX9_goHandle.1 ∈ TB := w4_157
theorem se_X9_goHandle : Cond.selects mX9_goHandle.1.cls mX9_goHandle.1 mX9_goHandle.1 ∈ TB := tb_p 63 rfl rfl
theorem oc_X9_handle : okC mX9_handle 1 := ⟨⟨by decide +kernel, by decide +kernel⟩, w4_154, w1_11, by decide +kernel, by decide +kernel, by decide +kernel⟩
theorem im_X9_handle : Cond.instanceMethod mX9_handle.1 ∈ TB := w4_152
theorem se_X9_handle : Cond.selects mX9_handle.1.cls mX9_handle.1 mX9_handle.1 ∈ TB := w4_153
theorem oc_X9_bite : okC mX9_bite 1 := ⟨⟨by decide +kernel, by decide +kernel⟩, w4_162, w1_11, by decide +kernel, by decide +kernel, by decide +kernel⟩
theorem im_X9_bite : Cond.instanceMethod mX9_bite.1 ∈ TB := w4_160
theorem se_X9_bite : Cond.selects mX9_bite.1.cls mX9_bite.1 mX9_bite.1 ∈ TB := w4_161
theorem oc_X9_next : okC mX9_next 2 := ⟨⟨by decide +kernel, by decide +kernel⟩, w4_180, w1_11, by decide +kernel, by decide +kernel, by decide +kernel⟩
theorem sm_X9_next : Cond.static mX9_next.1 ∈ TB := w4_179
theorem oc_X9_findFewest : okC mX9_findFewest 3 := ⟨⟨by decide +kernel, by decide +kernel⟩, w4_174, w1_11, by decide +kernel, by decide +kernel, by decide +kernel⟩
theorem im_X9_findFewest : Cond.instanceMethod mX9_findFewest.1 ∈ TB := w4_173
theorem se_X9_findFewest : Cond.selects mX9_findFewest.1.cls mX9_findFewest.1 mX9_findFewest.1 ∈ TB := tb_p 64 rfl rfl
theorem oc_X9_noPay : okC mX9_noPay 3 := ⟨⟨by decide +kernel, by decide +kernel⟩, w4_169, w1_11, by decide +kernel, by decide +kernel, by decide +kernel⟩
theorem sm_X9_noPay : Cond.static mX9_noPay.1 ∈ TB := w4_168
theorem oc_X9_fewest : okC mX9_fewest 3 := ⟨⟨by decide +kernel, by decide +kernel⟩, w4_166, w1_11, by decide +kernel, by decide +kernel, by decide +kernel⟩
theorem im_X9_fewest : Cond.instanceMethod mX9_fewest.1 ∈ TB := w4_164
theorem se_X9_fewest : Cond.selects mX9_fewest.1.cls mX9_fewest.1 mX9_fewest.1 ∈ TB := w4_165
theorem oc_X9_paid : okC mX9_paid 4 := ⟨⟨by decide +kernel, by decide +kernel⟩, w4_184, w1_11, by decide +kernel, by decide +kernel, by decide +kernel⟩
theorem im_X9_paid : Cond.instanceMethod mX9_paid.1 ∈ TB := w4_182
theorem se_X9_paid : Cond.selects mX9_paid.1.cls mX9_paid.1 mX9_paid.1 ∈ TB := w4_183
theorem oc_X9_lay : okC mX9_lay 2 := ⟨⟨by decide +kernel, by decide +kernel⟩, w4_192, w1_11, by decide +kernel, by decide +kernel, by decide +kernel⟩
theorem im_X9_lay : Cond.instanceMethod mX9_lay.1 ∈ TB := w4_191
theorem se_X9_lay : Cond.selects mX9_lay.1.cls mX9_lay.1 mX9_lay.1 ∈ TB := tb_p 65 rfl rfl
theorem oc_X9_take : okC mX9_take 2 := ⟨⟨by decide +kernel, by decide +kernel⟩, w4_204, w1_11, by decide +kernel, by decide +kernel, by decide +kernel⟩
theorem im_X9_take : Cond.instanceMethod mX9_take.1 ∈ TB := w4_203
theorem se_X9_take : Cond.selects mX9_take.1.cls mX9_take.1 mX9_take.1 ∈ TB := tb_p 67 rfl rfl
theorem oc_X9_goOver : okC mX9_goOver 2 := ⟨⟨by decide +kernel, by decide +kernel⟩, w4_196, w1_11, by decide +kernel, by decide +kernel, by decide +kernel⟩
theorem im_X9_goOver : Cond.instanceMethod mX9_goOver.1 ∈ TB := w4_195
theorem se_X9_goOver : Cond.selects mX9_goOver.1.cls mX9_goOver.1 mX9_goOver.1 ∈ TB := tb_p 66 rfl rfl
theorem oc_X9_pay : okC mX9_pay 3 := ⟨⟨by decide +kernel, by decide +kernel⟩, w4_188, w1_11, by decide +kernel, by decide +kernel, by decide +kernel⟩
theorem im_X9_pay : Cond.instanceMethod mX9_pay.1 ∈ TB := w4_186
theorem se_X9_pay : Cond.selects mX9_pay.1.cls mX9_pay.1 mX9_pay.1 ∈ TB := w4_187
theorem oc_X9_undo : okC mX9_undo 0 := ⟨⟨by decide +kernel, by decide +kernel⟩, w4_200, w1_11, by decide +kernel, by decide +kernel, by decide +kernel⟩
theorem im_X9_undo : Cond.instanceMethod mX9_undo.1 ∈ TB := w4_198
theorem se_X9_undo : Cond.selects mX9_undo.1.cls mX9_undo.1 mX9_undo.1 ∈ TB := w4_199
theorem oc_X9_findMuch : okC mX9_findMuch 2 := ⟨⟨by decide +kernel, by decide +kernel⟩, w4_212, w1_11, by decide +kernel, by decide +kernel, by decide +kernel⟩
theorem im_X9_findMuch : Cond.instanceMethod mX9_findMuch.1 ∈ TB := w4_211
theorem se_X9_findMuch : Cond.selects mX9_findMuch.1.cls mX9_findMuch.1 mX9_findMuch.1 ∈ TB := tb_p 68 rfl rfl
theorem oc_X9_tooMuch : okC mX9_tooMuch 3 := ⟨⟨by decide +kernel, by decide +kernel⟩, w4_208, w1_11, by decide +kernel, by decide +kernel, by decide +kernel⟩
theorem im_X9_tooMuch : Cond.instanceMethod mX9_tooMuch.1 ∈ TB := w4_206
theorem se_X9_tooMuch : Cond.selects mX9_tooMuch.1.cls mX9_tooMuch.1 mX9_tooMuch.1 ∈ TB := w4_207
theorem oc_X9_sums : okC mX9_sums 3 := ⟨⟨by decide +kernel, by decide +kernel⟩, w4_216, w1_11, by decide +kernel, by decide +kernel, by decide +kernel⟩
theorem im_X9_sums : Cond.instanceMethod mX9_sums.1 ∈ TB := w4_214
theorem se_X9_sums : Cond.selects mX9_sums.1.cls mX9_sums.1 mX9_sums.1 ∈ TB := w4_215
theorem oc_X9_spent : okC mX9_spent 2 := ⟨⟨by decide +kernel, by decide +kernel⟩, w4_220, w1_11, by decide +kernel, by decide +kernel, by decide +kernel⟩
theorem im_X9_spent : Cond.instanceMethod mX9_spent.1 ∈ TB := w4_218
theorem se_X9_spent : Cond.selects mX9_spent.1.cls mX9_spent.1 mX9_spent.1 ∈ TB := w4_219
theorem oc_X9_add : okC mX9_add 2 := ⟨⟨by decide +kernel, by decide +kernel⟩, w4_233, w1_11, by decide +kernel, by decide +kernel, by decide +kernel⟩
theorem im_X9_add : Cond.instanceMethod mX9_add.1 ∈ TB := w4_232
theorem se_X9_add : Cond.selects mX9_add.1.cls mX9_add.1 mX9_add.1 ∈ TB := tb_p 69 rfl rfl
theorem oc_X9_draw : okC mX9_draw 1 := ⟨⟨by decide +kernel, by decide +kernel⟩, w4_227, w1_11, by decide +kernel, by decide +kernel, by decide +kernel⟩
theorem sm_X9_draw : Cond.static mX9_draw.1 ∈ TB := w4_226
theorem oc_X9_caught : okC mX9_caught 2 := ⟨⟨by decide +kernel, by decide +kernel⟩, w4_224, w1_11, by decide +kernel, by decide +kernel, by decide +kernel⟩
theorem im_X9_caught : Cond.instanceMethod mX9_caught.1 ∈ TB := w4_222
theorem se_X9_caught : Cond.selects mX9_caught.1.cls mX9_caught.1 mX9_caught.1 ∈ TB := w4_223
theorem oc_X9_washed : okC mX9_washed 2 := ⟨⟨by decide +kernel, by decide +kernel⟩, w4_239, w1_11, by decide +kernel, by decide +kernel, by decide +kernel⟩
theorem im_X9_washed : Cond.instanceMethod mX9_washed.1 ∈ TB := w4_237
theorem se_X9_washed : Cond.selects mX9_washed.1.cls mX9_washed.1 mX9_washed.1 ∈ TB := w4_238
theorem oc_X9_life : okC mX9_life 2 := ⟨⟨by decide +kernel, by decide +kernel⟩, w5_4, w1_11, by decide +kernel, by decide +kernel, by decide +kernel⟩
theorem im_X9_life : Cond.instanceMethod mX9_life.1 ∈ TB := w5_2
theorem se_X9_life : Cond.selects mX9_life.1.cls mX9_life.1 mX9_life.1 ∈ TB := w5_3
theorem oc_X9_trace : okC mX9_trace 2 := ⟨⟨by decide +kernel, by decide +kernel⟩, w5_8, w1_11, by decide +kernel, by decide +kernel, by decide +kernel⟩
theorem im_X9_trace : Cond.instanceMethod mX9_trace.1 ∈ TB := w5_6
theorem se_X9_trace : Cond.selects mX9_trace.1.cls mX9_trace.1 mX9_trace.1 ∈ TB := w5_7
theorem oc_X9_inflated : okC mX9_inflated 2 := ⟨⟨by decide +kernel, by decide +kernel⟩, w5_12, w1_11, by decide +kernel, by decide +kernel, by decide +kernel⟩
theorem im_X9_inflated : Cond.instanceMethod mX9_inflated.1 ∈ TB := w5_10
theorem se_X9_inflated : Cond.selects mX9_inflated.1.cls mX9_inflated.1 mX9_inflated.1 ∈ TB := w5_11
theorem oc_X9_told : okC mX9_told 3 := ⟨⟨by decide +kernel, by decide +kernel⟩, w5_29, w1_11, by decide +kernel, by decide +kernel, by decide +kernel⟩
theorem sm_X9_told : Cond.static mX9_told.1 ∈ TB := w5_28
theorem oc_X9_power : okC mX9_power 2 := ⟨⟨by decide +kernel, by decide +kernel⟩, w5_25, w1_11, by decide +kernel, by decide +kernel, by decide +kernel⟩
theorem sm_X9_power : Cond.static mX9_power.1 ∈ TB := w5_24
theorem oc_X9_noTenths : okC mX9_noTenths 1 := ⟨⟨by decide +kernel, by decide +kernel⟩, w5_20, w1_11, by decide +kernel, by decide +kernel, by decide +kernel⟩
theorem sm_X9_noTenths : Cond.static mX9_noTenths.1 ∈ TB := w5_19
theorem oc_X9_doubt : okC mX9_doubt 6 := ⟨⟨by decide +kernel, by decide +kernel⟩, w5_17, w1_11, by decide +kernel, by decide +kernel, by decide +kernel⟩
theorem im_X9_doubt : Cond.instanceMethod mX9_doubt.1 ∈ TB := w5_15
theorem se_X9_doubt : Cond.selects mX9_doubt.1.cls mX9_doubt.1 mX9_doubt.1 ∈ TB := w5_16
theorem oc_X9_among : okC mX9_among 4 := ⟨⟨by decide +kernel, by decide +kernel⟩, w5_33, w1_11, by decide +kernel, by decide +kernel, by decide +kernel⟩
theorem im_X9_among : Cond.instanceMethod mX9_among.1 ∈ TB := w5_31
theorem se_X9_among : Cond.selects mX9_among.1.cls mX9_among.1 mX9_among.1 ∈ TB := w5_32
theorem oc_X9_rate : okC mX9_rate 4 := ⟨⟨by decide +kernel, by decide +kernel⟩, w5_37, w1_11, by decide +kernel, by decide +kernel, by decide +kernel⟩
theorem im_X9_rate : Cond.instanceMethod mX9_rate.1 ∈ TB := w5_35
theorem se_X9_rate : Cond.selects mX9_rate.1.cls mX9_rate.1 mX9_rate.1 ∈ TB := w5_36
theorem oc_X9_layRing : okC mX9_layRing 2 := ⟨⟨by decide +kernel, by decide +kernel⟩, w5_50, w1_11, by decide +kernel, by decide +kernel, by decide +kernel⟩
theorem im_X9_layRing : Cond.instanceMethod mX9_layRing.1 ∈ TB := w5_49
theorem se_X9_layRing : Cond.selects mX9_layRing.1.cls mX9_layRing.1 mX9_layRing.1 ∈ TB := tb_p 71 rfl rfl
theorem oc_X9_findRing : okC mX9_findRing 0 := ⟨⟨by decide +kernel, by decide +kernel⟩, w5_46, w1_11, by decide +kernel, by decide +kernel, by decide +kernel⟩
theorem im_X9_findRing : Cond.instanceMethod mX9_findRing.1 ∈ TB := w5_45
theorem se_X9_findRing : Cond.selects mX9_findRing.1.cls mX9_findRing.1 mX9_findRing.1 ∈ TB := tb_p 70 rfl rfl
theorem oc_X9_ring : okC mX9_ring 1 := ⟨⟨by decide +kernel, by decide +kernel⟩, w5_42, w1_11, by decide +kernel, by decide +kernel, by decide +kernel⟩
theorem im_X9_ring : Cond.instanceMethod mX9_ring.1 ∈ TB := w5_40
theorem se_X9_ring : Cond.selects mX9_ring.1.cls mX9_ring.1 mX9_ring.1 ∈ TB := w5_41
theorem oc_X9_ringAt : okC mX9_ringAt 1 := ⟨⟨by decide +kernel, by decide +kernel⟩, w5_54, w1_11, by decide +kernel, by decide +kernel, by decide +kernel⟩
theorem im_X9_ringAt : Cond.instanceMethod mX9_ringAt.1 ∈ TB := w5_52
theorem se_X9_ringAt : Cond.selects mX9_ringAt.1.cls mX9_ringAt.1 mX9_ringAt.1 ∈ TB := w5_53
theorem oc_X9_should : okC mX9_should 2 := ⟨⟨by decide +kernel, by decide +kernel⟩, w5_58, w1_11, by decide +kernel, by decide +kernel, by decide +kernel⟩
theorem im_X9_should : Cond.instanceMethod mX9_should.1 ∈ TB := w5_56
theorem se_X9_should : Cond.selects mX9_should.1.cls mX9_should.1 mX9_should.1 ∈ TB := w5_57
theorem oc_X9_stolenSet : okC mX9_stolenSet 0 := ⟨⟨by decide +kernel, by decide +kernel⟩, w5_66, w1_11, by decide +kernel, by decide +kernel, by decide +kernel⟩
theorem im_X9_stolenSet : Cond.instanceMethod mX9_stolenSet.1 ∈ TB := w5_65
theorem se_X9_stolenSet : Cond.selects mX9_stolenSet.1.cls mX9_stolenSet.1 mX9_stolenSet.1 ∈ TB := tb_p 72 rfl rfl
theorem oc_X9_stolen : okC mX9_stolen 0 := ⟨⟨by decide +kernel, by decide +kernel⟩, w5_62, w1_11, by decide +kernel, by decide +kernel, by decide +kernel⟩
theorem im_X9_stolen : Cond.instanceMethod mX9_stolen.1 ∈ TB := w5_60
theorem se_X9_stolen : Cond.selects mX9_stolen.1.cls mX9_stolen.1 mX9_stolen.1 ∈ TB := w5_61
theorem oc_X9_thief : okC mX9_thief 0 := ⟨⟨by decide +kernel, by decide +kernel⟩, w5_70, w1_11, by decide +kernel, by decide +kernel, by decide +kernel⟩
theorem im_X9_thief : Cond.instanceMethod mX9_thief.1 ∈ TB := w5_68
theorem se_X9_thief : Cond.selects mX9_thief.1.cls mX9_thief.1 mX9_thief.1 ∈ TB := w5_69
theorem oc_X9_keep : okC mX9_keep 1 := ⟨⟨by decide +kernel, by decide +kernel⟩, w5_74, w1_11, by decide +kernel, by decide +kernel, by decide +kernel⟩
theorem im_X9_keep : Cond.instanceMethod mX9_keep.1 ∈ TB := w5_72
theorem se_X9_keep : Cond.selects mX9_keep.1.cls mX9_keep.1 mX9_keep.1 ∈ TB := w5_73
theorem oc_X9_again : okC mX9_again 1 := ⟨⟨by decide +kernel, by decide +kernel⟩, w5_78, w1_11, by decide +kernel, by decide +kernel, by decide +kernel⟩
theorem im_X9_again : Cond.instanceMethod mX9_again.1 ∈ TB := w5_76
theorem se_X9_again : Cond.selects mX9_again.1.cls mX9_again.1 mX9_again.1 ∈ TB := w5_77
theorem oc_J6_bitCount_0f7a4 : okC mJ6_bitCount_0f7a4 1 := ⟨⟨by decide +kernel, by decide +kernel⟩, w2_150, w1_13, by decide +kernel, by decide +kernel, by decide +kernel⟩
theorem sm_J6_bitCount_0f7a4 : Cond.static mJ6_bitCount_0f7a4.1 ∈ TB := w2_149
theorem oc_J7_fill_53178 : okC mJ7_fill_53178 2 := ⟨⟨by decide +kernel, by decide +kernel⟩, w1_95, w1_7, by decide +kernel, by decide +kernel, by decide +kernel⟩
theorem sm_J7_fill_53178 : Cond.static mJ7_fill_53178.1 ∈ TB := w1_94
theorem nat_mmax : Cond.static Lib.Math.max.name ∈ TB ∧ Cond.initialized "java/lang/Math" ∈ TB ∧ Cond.code Lib.Math.max.name Lib.Math.max.code 2 (some .int) ∈ TB := ⟨w2_48, w1_12, w2_49⟩
theorem nat_mmin : Cond.static Lib.Math.min.name ∈ TB ∧ Cond.initialized "java/lang/Math" ∈ TB ∧ Cond.code Lib.Math.min.name Lib.Math.min.code 2 (some .int) ∈ TB := ⟨w2_115, w1_12, w2_116⟩
theorem nat_acopy : Cond.native arraycopyName ∈ TB ∧ Cond.static arraycopyName ∈ TB ∧ Cond.initialized "java/lang/System" ∈ TB := ⟨w2_180, w2_179, w1_14⟩
theorem fl_X8_10 : FL RX8 10 "TeethForCoins" "text" "LTeethForCoins$Text;" := Or.inl w1_176
theorem fl_X8_19 : FL RX8 19 "TeethForCoins" "teeth" "LTeethForCoins$Teeth;" := Or.inl w1_177
theorem fl_X8_26 : FL RX8 26 "TeethForCoins" "goods" "LTeethForCoins$Goods;" := Or.inl w1_178
theorem fl_X8_33 : FL RX8 33 "TeethForCoins" "bargains" "LTeethForCoins$Bargains;" := Or.inl w1_179
theorem fl_X8_40 : FL RX8 40 "TeethForCoins" "rates" "LTeethForCoins$Rates;" := Or.inl w1_180
theorem fl_X8_46 : FL RX8 46 "TeethForCoins" "slots" "[LTeethForCoins$Slot;" := Or.inl w1_181
theorem fl_X8_50 : FL RX8 50 "TeethForCoins" "lossByWear" "I" := Or.inl w1_182
theorem fl_X8_54 : FL RX8 54 "TeethForCoins" "timesOfLeft" "I" := Or.inl w1_183
theorem fl_X8_60 : FL RX8 60 "TeethForCoins" "least" "LTeethForCoins$Least;" := Or.inl w1_184
theorem fl_X8_67 : FL RX8 67 "TeethForCoins" "best" "LTeethForCoins$Ring;" := Or.inl w1_185
theorem fl_X8_71 : FL RX8 71 "TeethForCoins" "balances" "[I" := Or.inl w1_186
theorem fl_X8_75 : FL RX8 75 "TeethForCoins" "payable" "[I" := Or.inl w1_187
theorem fl_X0_11 : FL RX0 11 "TeethForCoins$Bargains" "ahead" "[LTeethForCoins$Teeth;" := Or.inl w1_79
theorem fl_X0_17 : FL RX0 17 "TeethForCoins$Bargains" "made" "I" := Or.inl w1_80
theorem fl_X1_9 : FL RX1 9 "TeethForCoins$Goods" "prices" "[I" := Or.inl w1_59
theorem fl_X1_15 : FL RX1 15 "TeethForCoins$Goods" "uses" "[I" := Or.inl w1_60
theorem fl_X1_18 : FL RX1 18 "TeethForCoins$Goods" "count" "I" := Or.inl w1_61
theorem fl_X2_7 : FL RX2 7 "TeethForCoins$Least" "found" "Z" := Or.inl w1_111
theorem fl_X2_13 : FL RX2 13 "TeethForCoins$Least" "first" "I" := Or.inl w1_113
theorem fl_X2_17 : FL RX2 17 "TeethForCoins$Least" "second" "I" := Or.inl w1_115
theorem fl_X2_20 : FL RX2 20 "TeethForCoins$Least" "third" "I" := Or.inl w1_117
theorem fl_X3_9 : FL RX3 9 "TeethForCoins$Rates" "got" "[I" := Or.inl w1_96
theorem fl_X3_15 : FL RX3 15 "TeethForCoins$Rates" "given" "[I" := Or.inl w1_97
theorem fl_X4_7 : FL RX4 7 "TeethForCoins$Ring" "code" "I" := Or.inl w1_134
theorem fl_X4_13 : FL RX4 13 "TeethForCoins$Ring" "many" "I" := Or.inl w1_136
theorem fl_X4_16 : FL RX4 16 "TeethForCoins$Ring" "got" "J" := Or.inl w1_138
theorem fl_X4_20 : FL RX4 20 "TeethForCoins$Ring" "given" "J" := Or.inl w1_140
theorem fl_X5_10 : FL RX5 10 "TeethForCoins$Slot" "teeth" "LTeethForCoins$Teeth;" := Or.inl w1_162
theorem fl_X5_19 : FL RX5 19 "TeethForCoins$Slot" "bargains" "LTeethForCoins$Bargains;" := Or.inl w1_163
theorem fl_X5_26 : FL RX5 26 "TeethForCoins$Slot" "rates" "LTeethForCoins$Rates;" := Or.inl w1_164
theorem fl_X5_30 : FL RX5 30 "TeethForCoins$Slot" "full" "Z" := Or.inl w1_165
theorem fl_X6_11 : FL RX6 11 "TeethForCoins$Teeth" "cells" "[I" := Or.inl w1_44
theorem fl_X6_15 : FL RX6 15 "TeethForCoins$Teeth" "count" "I" := Or.inl w1_45
theorem fl_X7_9 : FL RX7 9 "TeethForCoins$Text" "bytes" "[B" := Or.inl w1_29
theorem fl_X7_15 : FL RX7 15 "TeethForCoins$Text" "length" "I" := Or.inl w1_30
theorem fl_X9_7 : FL RX9 7 "TeethForCoinsModel" "text" "[I" := Or.inl w3_151
theorem fl_X9_13 : FL RX9 13 "TeethForCoinsModel" "loss" "I" := Or.inl w3_154
theorem fl_X9_17 : FL RX9 17 "TeethForCoinsModel" "times" "I" := Or.inl w3_155
theorem fl_X9_20 : FL RX9 20 "TeethForCoinsModel" "size" "[I" := Or.inl w3_157
theorem fl_X9_23 : FL RX9 23 "TeethForCoinsModel" "left" "[Z" := Or.inl w3_158
theorem fl_X9_27 : FL RX9 27 "TeethForCoinsModel" "wear" "[I" := Or.inl w3_159
theorem fl_X9_30 : FL RX9 30 "TeethForCoinsModel" "owner" "[I" := Or.inl w3_160
theorem fl_X9_33 : FL RX9 33 "TeethForCoinsModel" "fake" "[Z" := Or.inl w3_161
theorem fl_X9_36 : FL RX9 36 "TeethForCoinsModel" "should" "[I" := Or.inl w3_162
theorem fl_X9_39 : FL RX9 39 "TeethForCoinsModel" "traces" "[I" := Or.inl w3_163
theorem fl_X9_42 : FL RX9 42 "TeethForCoinsModel" "trace" "[I" := Or.inl w3_164
theorem fl_X9_45 : FL RX9 45 "TeethForCoinsModel" "price" "[I" := Or.inl w3_166
theorem fl_X9_48 : FL RX9 48 "TeethForCoinsModel" "use" "[I" := Or.inl w3_167
theorem fl_X9_51 : FL RX9 51 "TeethForCoinsModel" "readSize" "[I" := Or.inl w3_172
theorem fl_X9_54 : FL RX9 54 "TeethForCoinsModel" "readLeft" "[Z" := Or.inl w3_173
theorem fl_X9_57 : FL RX9 57 "TeethForCoinsModel" "readWear" "[I" := Or.inl w3_174
theorem fl_X9_60 : FL RX9 60 "TeethForCoinsModel" "readOwner" "[I" := Or.inl w3_175
theorem fl_X9_63 : FL RX9 63 "TeethForCoinsModel" "readFake" "[Z" := Or.inl w3_176
theorem fl_X9_66 : FL RX9 66 "TeethForCoinsModel" "readPrice" "[I" := Or.inl w3_177
theorem fl_X9_69 : FL RX9 69 "TeethForCoinsModel" "readUse" "[I" := Or.inl w3_178
theorem fl_X9_72 : FL RX9 72 "TeethForCoinsModel" "book" "[I" := Or.inl w3_179
theorem fl_X9_75 : FL RX9 75 "TeethForCoinsModel" "above" "[I" := Or.inl w3_181
theorem fl_X9_78 : FL RX9 78 "TeethForCoinsModel" "below" "[I" := Or.inl w3_182
theorem fl_X9_81 : FL RX9 81 "TeethForCoinsModel" "keptPage" "[I" := Or.inl w3_183
theorem fl_X9_84 : FL RX9 84 "TeethForCoinsModel" "keptMore" "[I" := Or.inl w3_184
theorem fl_X9_87 : FL RX9 87 "TeethForCoinsModel" "keptBook" "[I" := Or.inl w3_185
theorem fl_X9_90 : FL RX9 90 "TeethForCoinsModel" "keptRates" "[I" := Or.inl w3_186
theorem fl_X9_93 : FL RX9 93 "TeethForCoinsModel" "isKept" "[Z" := Or.inl w3_187
theorem fl_X9_96 : FL RX9 96 "TeethForCoinsModel" "keptBargains" "[I" := Or.inl w3_188
theorem fl_X9_99 : FL RX9 99 "TeethForCoinsModel" "ring" "[I" := Or.inl w3_192
theorem fl_X9_102 : FL RX9 102 "TeethForCoinsModel" "tried" "[I" := Or.inl w3_193
theorem fl_X9_105 : FL RX9 105 "TeethForCoinsModel" "can" "[Z" := Or.inl w3_197
theorem fl_X9_108 : FL RX9 108 "TeethForCoinsModel" "thrown" "I" := Or.inl w3_150
theorem fl_X9_111 : FL RX9 111 "TeethForCoinsModel" "teeth" "I" := Or.inl w3_156
theorem fl_X9_122 : FL RX9 122 "TeethForCoinsModel" "textSize" "I" := Or.inl w3_152
theorem fl_X9_125 : FL RX9 125 "TeethForCoinsModel" "place" "I" := Or.inl w3_153
theorem fl_X9_136 : FL RX9 136 "TeethForCoinsModel" "readTeeth" "I" := Or.inl w3_170
theorem fl_X9_139 : FL RX9 139 "TeethForCoinsModel" "readGoods" "I" := Or.inl w3_171
theorem fl_X9_150 : FL RX9 150 "TeethForCoinsModel" "readLoss" "I" := Or.inl w3_168
theorem fl_X9_153 : FL RX9 153 "TeethForCoinsModel" "readTimes" "I" := Or.inl w3_169
theorem fl_X9_162 : FL RX9 162 "TeethForCoinsModel" "goods" "I" := Or.inl w3_165
theorem fl_X9_169 : FL RX9 169 "TeethForCoinsModel" "bargains" "I" := Or.inl w3_180
theorem fl_X9_205 : FL RX9 205 "TeethForCoinsModel" "paidSet" "I" := Or.inl w3_189
theorem fl_X9_208 : FL RX9 208 "TeethForCoinsModel" "changeSet" "I" := Or.inl w3_190
theorem fl_X9_234 : FL RX9 234 "TeethForCoinsModel" "bestSet" "I" := Or.inl w3_191
theorem fl_X9_279 : FL RX9 279 "TeethForCoinsModel" "ringUp" "J" := Or.inl w3_195
theorem fl_X9_283 : FL RX9 283 "TeethForCoinsModel" "ringDown" "J" := Or.inl w3_196
theorem fl_X9_289 : FL RX9 289 "TeethForCoinsModel" "ringMany" "I" := Or.inl w3_194
theorem fl_X8_79 : FL RX8 79 "TeethForCoins$Text" "length" "I" := Or.inr ⟨"TeethForCoins", tl_1 31 rfl⟩
theorem fl_X8_94 : FL RX8 94 "TeethForCoins$Teeth" "count" "I" := Or.inr ⟨"TeethForCoins", tl_1 46 rfl⟩
theorem fl_X8_97 : FL RX8 97 "TeethForCoins$Goods" "count" "I" := Or.inr ⟨"TeethForCoins", tl_1 62 rfl⟩
theorem fl_X8_98 : FL RX8 98 "TeethForCoins$Bargains" "made" "I" := Or.inr ⟨"TeethForCoins", tl_1 81 rfl⟩
theorem fl_X8_162 : FL RX8 162 "TeethForCoins$Least" "found" "Z" := Or.inr ⟨"TeethForCoins", tl_1 112 rfl⟩
theorem fl_X8_166 : FL RX8 166 "TeethForCoins$Least" "first" "I" := Or.inr ⟨"TeethForCoins", tl_1 114 rfl⟩
theorem fl_X8_169 : FL RX8 169 "TeethForCoins$Least" "third" "I" := Or.inr ⟨"TeethForCoins", tl_1 118 rfl⟩
theorem fl_X8_172 : FL RX8 172 "TeethForCoins$Least" "second" "I" := Or.inr ⟨"TeethForCoins", tl_1 116 rfl⟩
theorem fl_X8_263 : FL RX8 263 "TeethForCoins$Ring" "got" "J" := Or.inr ⟨"TeethForCoins", tl_1 139 rfl⟩
theorem fl_X8_267 : FL RX8 267 "TeethForCoins$Ring" "given" "J" := Or.inr ⟨"TeethForCoins", tl_1 141 rfl⟩
theorem fl_X8_270 : FL RX8 270 "TeethForCoins$Ring" "many" "I" := Or.inr ⟨"TeethForCoins", tl_1 137 rfl⟩
theorem fl_X8_273 : FL RX8 273 "TeethForCoins$Ring" "code" "I" := Or.inr ⟨"TeethForCoins", tl_1 135 rfl⟩
theorem fl_X8_292 : FL RX8 292 "TeethForCoins$Slot" "full" "Z" := Or.inr ⟨"TeethForCoins", tl_1 166 rfl⟩
theorem ml_X8_101 : ML RX8 101 yX8_readPart := Or.inl w2_19
theorem ml_X8_120 : ML RX8 120 yX8_isTooth := Or.inl w2_62
theorem ml_X8_127 : ML RX8 127 yX8_worthOf := Or.inl w2_67
theorem ml_X8_130 : ML RX8 130 yX8_isGood := Or.inl w2_79
theorem ml_X8_139 : ML RX8 139 yX8_isPerson := Or.inl w2_95
theorem ml_X8_145 : ML RX8 145 yX8_worthOfSet := Or.inl w2_102
theorem ml_X8_155 : ML RX8 155 yX8_paymentRefusal := Or.inl w2_125
theorem ml_X8_159 : ML RX8 159 yX8_seekFewest := Or.inl w2_131
theorem ml_X8_179 : ML RX8 179 yX8_handOver := Or.inl w2_181
theorem ml_X8_186 : ML RX8 186 yX8_isPrice := Or.inl w2_128
theorem ml_X8_189 : ML RX8 189 yX8_seekTooMuch := Or.inl w2_202
theorem ml_X8_192 : ML RX8 192 yX8_weighSets := Or.inl w2_135
theorem ml_X8_195 : ML RX8 195 yJ7_fill_53178 := Or.inl w2_210
theorem ml_X8_201 : ML RX8 201 yX8_setsOfTeeth := Or.inl w2_143
theorem ml_X8_216 : ML RX8 216 yX8_drawFrom := Or.inl w2_229
theorem ml_X8_220 : ML RX8 220 yX8_addDrawn := Or.inl w2_234
theorem ml_X8_224 : ML RX8 224 yX8_worthWorn := Or.inl w2_71
theorem ml_X8_230 : ML RX8 230 yX8_isTenths := Or.inl w3_24
theorem ml_X8_235 : ML RX8 235 yX8_power := Or.inl w3_28
theorem ml_X8_241 : ML RX8 241 yX8_ofFraction := Or.inl w3_32
theorem ml_X8_247 : ML RX8 247 yX8_isMoney := Or.inl w3_47
theorem ml_X8_260 : ML RX8 260 yX8_seekRing := Or.inl w3_66
theorem ml_X8_285 : ML RX8 285 yX8_isSlot := Or.inl w3_117
theorem ml_X8_310 : ML RX8 310 yJ6_bitCount_0f7a4 := Or.inl w2_148
theorem ml_X8_326 : ML RX8 326 yX8_commonDivisor := Or.inl w3_35
theorem ml_X1_22 : ML RX1 22 yX1_priceOf := Or.inl w2_219
theorem ml_X1_26 : ML RX1 26 yX1_useOf := Or.inl w2_224
theorem ml_X3_18 : ML RX3 18 yJ7_fill_53178 := Or.inl w1_93
theorem ml_X4_23 : ML RX4 23 yX4_moneyAt := Or.inl w3_77
theorem ml_X6_19 : ML RX6 19 yX6_set := Or.inl w2_29
theorem ml_X6_23 : ML RX6 23 yX6_passTo := Or.inl w2_33
theorem ml_X6_27 : ML RX6 27 yX6_get := Or.inl w2_37
theorem ml_X6_39 : ML RX6 39 yX6_wearTooMuch := Or.inl w3_112
theorem ml_X6_43 : ML RX6 43 yX6_copyCells := Or.inl w2_174
theorem ml_X7_19 : ML RX7 19 yX7_byteAt := Or.inl w1_233
theorem ml_X7_23 : ML RX7 23 yX7_mayFollow := Or.inl w1_237
theorem ml_X7_27 : ML RX7 27 yX7_mayBegin := Or.inl w2_8
theorem ml_X7_30 : ML RX7 30 yX7_tellsTooth := Or.inl w2_5
theorem ml_X7_34 : ML RX7 34 yX7_partLength := Or.inl w2_11
theorem ml_X7_37 : ML RX7 37 yX7_figureAt := Or.inl w2_1
theorem ml_L_15 : ML RL 15 yX8_write := Or.inl w1_213
theorem ml_L_19 : ML RL 19 yX9_write := Or.inl w4_56
theorem ml_L_20 : ML RL 20 yX8_wipe := Or.inl w1_221
theorem ml_L_24 : ML RL 24 yX9_wipe := Or.inl w4_64
theorem ml_L_25 : ML RL 25 yX8_fault := Or.inl w1_225
theorem ml_L_28 : ML RL 28 yX9_fault := Or.inl w4_68
theorem ml_L_29 : ML RL 29 yX8_market := Or.inl w2_14
theorem ml_L_32 : ML RL 32 yX9_market := Or.inl w4_96
theorem ml_L_33 : ML RL 33 yX8_about := Or.inl w2_50
theorem ml_L_37 : ML RL 37 yX9_about := Or.inl w4_104
theorem ml_L_38 : ML RL 38 yX8_tooth := Or.inl w2_58
theorem ml_L_42 : ML RL 42 yX9_tooth := Or.inl w4_112
theorem ml_L_43 : ML RL 43 yX8_good := Or.inl w2_75
theorem ml_L_46 : ML RL 46 yX9_good := Or.inl w4_128
theorem ml_L_47 : ML RL 47 yX8_purse := Or.inl w2_91
theorem ml_L_50 : ML RL 50 yX9_purse := Or.inl w4_132
theorem ml_L_51 : ML RL 51 yX8_handle := Or.inl w2_106
theorem ml_L_54 : ML RL 54 yX9_handle := Or.inl w4_151
theorem ml_L_55 : ML RL 55 yX8_bite := Or.inl w2_117
theorem ml_L_58 : ML RL 58 yX9_bite := Or.inl w4_159
theorem ml_L_59 : ML RL 59 yX8_fewest := Or.inl w2_121
theorem ml_L_63 : ML RL 63 yX9_fewest := Or.inl w4_163
theorem ml_L_64 : ML RL 64 yX8_paid := Or.inl w2_158
theorem ml_L_68 : ML RL 68 yX9_paid := Or.inl w4_181
theorem ml_L_69 : ML RL 69 yX8_pay := Or.inl w2_162
theorem ml_L_72 : ML RL 72 yX9_pay := Or.inl w4_185
theorem ml_L_73 : ML RL 73 yX8_undo := Or.inl w2_186
theorem ml_L_76 : ML RL 76 yX9_undo := Or.inl w4_197
theorem ml_L_77 : ML RL 77 yX8_tooMuch := Or.inl w2_198
theorem ml_L_81 : ML RL 81 yX9_tooMuch := Or.inl w4_205
theorem ml_L_82 : ML RL 82 yX8_sums := Or.inl w2_206
theorem ml_L_85 : ML RL 85 yX9_sums := Or.inl w4_213
theorem ml_L_86 : ML RL 86 yX8_spent := Or.inl w2_211
theorem ml_L_90 : ML RL 90 yX9_spent := Or.inl w4_217
theorem ml_L_91 : ML RL 91 yX8_caught := Or.inl w2_225
theorem ml_L_94 : ML RL 94 yX9_caught := Or.inl w4_221
theorem ml_L_95 : ML RL 95 yX8_washed := Or.inl w3_0
theorem ml_L_98 : ML RL 98 yX9_washed := Or.inl w4_236
theorem ml_L_99 : ML RL 99 yX8_life := Or.inl w3_4
theorem ml_L_102 : ML RL 102 yX9_life := Or.inl w5_1
theorem ml_L_103 : ML RL 103 yX8_trace := Or.inl w3_8
theorem ml_L_106 : ML RL 106 yX9_trace := Or.inl w5_5
theorem ml_L_107 : ML RL 107 yX8_inflated := Or.inl w3_16
theorem ml_L_110 : ML RL 110 yX9_inflated := Or.inl w5_9
theorem ml_L_111 : ML RL 111 yX8_doubt := Or.inl w3_20
theorem ml_L_115 : ML RL 115 yX9_doubt := Or.inl w5_14
theorem ml_L_116 : ML RL 116 yX8_among := Or.inl w3_38
theorem ml_L_120 : ML RL 120 yX9_among := Or.inl w5_30
theorem ml_L_121 : ML RL 121 yX8_rate := Or.inl w3_43
theorem ml_L_125 : ML RL 125 yX9_rate := Or.inl w5_34
theorem ml_L_126 : ML RL 126 yX8_ring := Or.inl w3_62
theorem ml_L_130 : ML RL 130 yX9_ring := Or.inl w5_39
theorem ml_L_131 : ML RL 131 yX8_ringAt := Or.inl w3_86
theorem ml_L_134 : ML RL 134 yX9_ringAt := Or.inl w5_51
theorem ml_L_135 : ML RL 135 yX8_should := Or.inl w3_91
theorem ml_L_138 : ML RL 138 yX9_should := Or.inl w5_55
theorem ml_L_139 : ML RL 139 yX8_stolen := Or.inl w3_95
theorem ml_L_142 : ML RL 142 yX9_stolen := Or.inl w5_59
theorem ml_L_143 : ML RL 143 yX8_thief := Or.inl w3_104
theorem ml_L_146 : ML RL 146 yX9_thief := Or.inl w5_67
theorem ml_L_147 : ML RL 147 yX8_keep := Or.inl w3_113
theorem ml_L_150 : ML RL 150 yX9_keep := Or.inl w5_71
theorem ml_L_151 : ML RL 151 yX8_again := Or.inl w3_136
theorem ml_L_154 : ML RL 154 yX9_again := Or.inl w5_75
theorem ml_X9_114 : ML RX9 114 yX9_in := Or.inl w4_61
theorem ml_X9_128 : ML RX9 128 yX9_figure := Or.inl w4_76
theorem ml_X9_132 : ML RX9 132 yX9_side := Or.inl w4_88
theorem ml_X9_142 : ML RX9 142 yX9_readTooth := Or.inl w4_84
theorem ml_X9_146 : ML RX9 146 yX9_readGood := Or.inl w4_92
theorem ml_X9_156 : ML RX9 156 yX9_readPart := Or.inl w4_80
theorem ml_X9_159 : ML RX9 159 yX9_readMarket := Or.inl w4_72
theorem ml_X9_165 : ML RX9 165 yX9_come := Or.inl w4_100
theorem ml_X9_172 : ML RX9 172 yX9_fakes := Or.inl w4_108
theorem ml_X9_175 : ML RX9 175 yX9_worthBy := Or.inl w4_124
theorem ml_X9_178 : ML RX9 178 yX9_noTooth := Or.inl w4_116
theorem ml_X9_182 : ML RX9 182 yX9_worth := Or.inl w4_120
theorem ml_X9_186 : ML RX9 186 yX9_has := Or.inl w4_148
theorem ml_X9_190 : ML RX9 190 yX9_noOne := Or.inl w4_136
theorem ml_X9_193 : ML RX9 193 yX9_setOf := Or.inl w4_140
theorem ml_X9_196 : ML RX9 196 yX9_worthOf := Or.inl w4_144
theorem ml_X9_199 : ML RX9 199 yX9_goHandle := Or.inl w4_155
theorem ml_X9_202 : ML RX9 202 yX9_many := Or.inl w4_175
theorem ml_X9_211 : ML RX9 211 yX9_next := Or.inl w4_178
theorem ml_X9_216 : ML RX9 216 yX9_noPay := Or.inl w4_167
theorem ml_X9_220 : ML RX9 220 yX9_findFewest := Or.inl w4_171
theorem ml_X9_223 : ML RX9 223 yX9_lay := Or.inl w4_189
theorem ml_X9_227 : ML RX9 227 yX9_goOver := Or.inl w4_193
theorem ml_X9_231 : ML RX9 231 yX9_take := Or.inl w4_201
theorem ml_X9_237 : ML RX9 237 yX9_findMuch := Or.inl w4_209
theorem ml_X9_248 : ML RX9 248 yX9_draw := Or.inl w4_225
theorem ml_X9_252 : ML RX9 252 yX9_add := Or.inl w4_230
theorem ml_X9_260 : ML RX9 260 yX9_noTenths := Or.inl w5_18
theorem ml_X9_267 : ML RX9 267 yX9_power := Or.inl w5_23
theorem ml_X9_273 : ML RX9 273 yX9_told := Or.inl w5_27
theorem ml_X9_286 : ML RX9 286 yX9_layRing := Or.inl w5_47
theorem ml_X9_292 : ML RX9 292 yX9_findRing := Or.inl w5_43
theorem ml_X9_295 : ML RX9 295 yX9_stolenSet := Or.inl w5_63
theorem ml_X8_82 : ML RX8 82 yX7_append := Or.inr ⟨"TeethForCoins", tl_1 217 rfl⟩
theorem ml_X8_86 : ML RX8 86 yX7_faultPlace := Or.inr ⟨"TeethForCoins", tl_1 229 rfl⟩
theorem ml_X8_90 : ML RX8 90 yX7_figureAt := Or.inr ⟨"TeethForCoins", tl_2 18 rfl⟩
theorem ml_X8_105 : ML RX8 105 yX7_byteAt := Or.inr ⟨"TeethForCoins", tl_2 23 rfl⟩
theorem ml_X8_108 : ML RX8 108 yX7_partLength := Or.inr ⟨"TeethForCoins", tl_2 46 rfl⟩
theorem ml_X8_117 : ML RX8 117 yX6_fakes := Or.inr ⟨"TeethForCoins", tl_2 54 rfl⟩
theorem ml_X8_124 : ML RX8 124 yX6_get := Or.inr ⟨"TeethForCoins", tl_2 66 rfl⟩
theorem ml_X8_133 : ML RX8 133 yX1_priceOf := Or.inr ⟨"TeethForCoins", tl_2 83 rfl⟩
theorem ml_X8_136 : ML RX8 136 yX1_useOf := Or.inr ⟨"TeethForCoins", tl_2 87 rfl⟩
theorem ml_X8_142 : ML RX8 142 yX6_ownedBy := Or.inr ⟨"TeethForCoins", tl_2 98 rfl⟩
theorem ml_X8_148 : ML RX8 148 yX6_wearDown := Or.inr ⟨"TeethForCoins", tl_2 110 rfl⟩
theorem ml_X8_151 : ML RX8 151 yX6_set := Or.inr ⟨"TeethForCoins", tl_2 41 rfl⟩
theorem ml_X8_175 : ML RX8 175 yX0_remember := Or.inr ⟨"TeethForCoins", tl_2 166 rfl⟩
theorem ml_X8_183 : ML RX8 183 yX0_takeBack := Or.inr ⟨"TeethForCoins", tl_2 190 rfl⟩
theorem ml_X8_204 : ML RX8 204 yX2_clear := Or.inr ⟨"TeethForCoins", tl_2 139 rfl⟩
theorem ml_X8_207 : ML RX8 207 yX1_priceOfSet := Or.inr ⟨"TeethForCoins", tl_2 215 rfl⟩
theorem ml_X8_210 : ML RX8 210 yX1_useOfSet := Or.inr ⟨"TeethForCoins", tl_2 220 rfl⟩
theorem ml_X8_213 : ML RX8 213 yX2_offer := Or.inr ⟨"TeethForCoins", tl_2 154 rfl⟩
theorem ml_X8_227 : ML RX8 227 yX6_traceOf := Or.inr ⟨"TeethForCoins", tl_3 12 rfl⟩
theorem ml_X8_250 : ML RX8 250 yX3_gotFor := Or.inr ⟨"TeethForCoins", tl_3 50 rfl⟩
theorem ml_X8_253 : ML RX8 253 yX3_givenFor := Or.inr ⟨"TeethForCoins", tl_3 54 rfl⟩
theorem ml_X8_256 : ML RX8 256 yX3_put := Or.inr ⟨"TeethForCoins", tl_3 58 rfl⟩
theorem ml_X8_276 : ML RX8 276 yX4_moneyAt := Or.inr ⟨"TeethForCoins", tl_3 90 rfl⟩
theorem ml_X8_279 : ML RX8 279 yX6_wearTooMuch := Or.inr ⟨"TeethForCoins", tl_3 99 rfl⟩
theorem ml_X8_282 : ML RX8 282 yX6_wearTooMuchOf := Or.inr ⟨"TeethForCoins", tl_3 108 rfl⟩
theorem ml_X8_288 : ML RX8 288 yX5_takeIn := Or.inr ⟨"TeethForCoins", tl_3 121 rfl⟩
theorem ml_X8_295 : ML RX8 295 yX5_giveOut := Or.inr ⟨"TeethForCoins", tl_3 140 rfl⟩
theorem ml_X8_298 : ML RX8 298 yX7_tellsTooth := Or.inr ⟨"TeethForCoins", tl_2 24 rfl⟩
theorem ml_X8_301 : ML RX8 301 yX6_add := Or.inr ⟨"TeethForCoins", tl_2 25 rfl⟩
theorem ml_X8_305 : ML RX8 305 yX1_add := Or.inr ⟨"TeethForCoins", tl_2 42 rfl⟩
theorem ml_X8_315 : ML RX8 315 yX6_passTo := Or.inr ⟨"TeethForCoins", tl_2 185 rfl⟩
theorem ml_X8_330 : ML RX8 330 yX4_clear := Or.inr ⟨"TeethForCoins", tl_3 70 rfl⟩
theorem ml_X8_331 : ML RX8 331 yX4_isRing := Or.inr ⟨"TeethForCoins", tl_3 74 rfl⟩
theorem ml_X8_335 : ML RX8 335 yX4_offer := Or.inr ⟨"TeethForCoins", tl_3 80 rfl⟩
theorem ml_X0_22 : ML RX0 22 yX6_copyFrom := Or.inr ⟨"TeethForCoins", tl_2 170 rfl⟩
theorem ml_X0_26 : ML RX0 26 yX6_takeBack := Or.inr ⟨"TeethForCoins", tl_2 194 rfl⟩
theorem ml_X4_27 : ML RX4 27 yX3_gotFor := Or.inr ⟨"TeethForCoins", tl_3 84 rfl⟩
theorem ml_X4_33 : ML RX4 33 yX3_givenFor := Or.inr ⟨"TeethForCoins", tl_3 85 rfl⟩
theorem ml_X5_34 : ML RX5 34 yX6_copyFrom := Or.inr ⟨"TeethForCoins", tl_3 125 rfl⟩
theorem ml_X5_38 : ML RX5 38 yX0_copyFrom := Or.inr ⟨"TeethForCoins", tl_3 126 rfl⟩
theorem ml_X5_41 : ML RX5 41 yX3_copyFrom := Or.inr ⟨"TeethForCoins", tl_3 130 rfl⟩
theorem lay_X0 : ∀ w ∈ u_ws RX0 TX0 2, w ∈ TB := by
  intro w hw
  unfold u_ws at hw
  obtain ⟨k, hk, rfl⟩ := List.mem_map.mp hw
  have hk := List.mem_range.mp hk
  match k, hk with
  | 0, _ => exact w1_82
  | 1, _ => exact w1_84
  | k + 2, hk => exact absurd hk (by omega)
theorem cls_X0 : clsOK 0 RX0 TX0 2 := ⟨rfl, lay_X0, tyX0_ok, nmX0⟩
theorem lay_X1 : ∀ w ∈ u_ws RX1 TX1 3, w ∈ TB := by
  intro w hw
  unfold u_ws at hw
  obtain ⟨k, hk, rfl⟩ := List.mem_map.mp hw
  have hk := List.mem_range.mp hk
  match k, hk with
  | 0, _ => exact w1_63
  | 1, _ => exact w1_65
  | 2, _ => exact w1_67
  | k + 3, hk => exact absurd hk (by omega)
theorem cls_X1 : clsOK 1 RX1 TX1 3 := ⟨rfl, lay_X1, tyX1_ok, nmX1⟩
theorem lay_X2 : ∀ w ∈ u_ws RX2 TX2 4, w ∈ TB := by
  intro w hw
  unfold u_ws at hw
  obtain ⟨k, hk, rfl⟩ := List.mem_map.mp hw
  have hk := List.mem_range.mp hk
  match k, hk with
  | 0, _ => exact w1_119
  | 1, _ => exact w1_121
  | 2, _ => exact w1_123
  | 3, _ => exact w1_125
  | k + 4, hk => exact absurd hk (by omega)
theorem cls_X2 : clsOK 2 RX2 TX2 4 := ⟨rfl, lay_X2, tyX2_ok, nmX2⟩
theorem lay_X3 : ∀ w ∈ u_ws RX3 TX3 2, w ∈ TB := by
  intro w hw
  unfold u_ws at hw
  obtain ⟨k, hk, rfl⟩ := List.mem_map.mp hw
  have hk := List.mem_range.mp hk
  match k, hk with
  | 0, _ => exact w1_98
  | 1, _ => exact w1_100
  | k + 2, hk => exact absurd hk (by omega)
theorem cls_X3 : clsOK 3 RX3 TX3 2 := ⟨rfl, lay_X3, tyX3_ok, nmX3⟩
theorem lay_X4 : ∀ w ∈ u_ws RX4 TX4 4, w ∈ TB := by
  intro w hw
  unfold u_ws at hw
  obtain ⟨k, hk, rfl⟩ := List.mem_map.mp hw
  have hk := List.mem_range.mp hk
  match k, hk with
  | 0, _ => exact w1_142
  | 1, _ => exact w1_144
  | 2, _ => exact w1_146
  | 3, _ => exact w1_148
  | k + 4, hk => exact absurd hk (by omega)
theorem cls_X4 : clsOK 4 RX4 TX4 4 := ⟨rfl, lay_X4, tyX4_ok, nmX4⟩
theorem lay_X5 : ∀ w ∈ u_ws RX5 TX5 4, w ∈ TB := by
  intro w hw
  unfold u_ws at hw
  obtain ⟨k, hk, rfl⟩ := List.mem_map.mp hw
  have hk := List.mem_range.mp hk
  match k, hk with
  | 0, _ => exact w1_167
  | 1, _ => exact w1_169
  | 2, _ => exact w1_171
  | 3, _ => exact w1_173
  | k + 4, hk => exact absurd hk (by omega)
theorem cls_X5 : clsOK 5 RX5 TX5 4 := ⟨rfl, lay_X5, tyX5_ok, nmX5⟩
theorem lay_X6 : ∀ w ∈ u_ws RX6 TX6 2, w ∈ TB := by
  intro w hw
  unfold u_ws at hw
  obtain ⟨k, hk, rfl⟩ := List.mem_map.mp hw
  have hk := List.mem_range.mp hk
  match k, hk with
  | 0, _ => exact w1_47
  | 1, _ => exact w1_49
  | k + 2, hk => exact absurd hk (by omega)
theorem cls_X6 : clsOK 6 RX6 TX6 2 := ⟨rfl, lay_X6, tyX6_ok, nmX6⟩
theorem lay_X7 : ∀ w ∈ u_ws RX7 TX7 2, w ∈ TB := by
  intro w hw
  unfold u_ws at hw
  obtain ⟨k, hk, rfl⟩ := List.mem_map.mp hw
  have hk := List.mem_range.mp hk
  match k, hk with
  | 0, _ => exact w1_32
  | 1, _ => exact w1_34
  | k + 2, hk => exact absurd hk (by omega)
theorem cls_X7 : clsOK 7 RX7 TX7 2 := ⟨rfl, lay_X7, tyX7_ok, nmX7⟩
theorem lay_X8 : ∀ w ∈ u_ws RX8 TX8 12, w ∈ TB := by
  intro w hw
  unfold u_ws at hw
  obtain ⟨k, hk, rfl⟩ := List.mem_map.mp hw
  have hk := List.mem_range.mp hk
  match k, hk with
  | 0, _ => exact w1_188
  | 1, _ => exact w1_190
  | 2, _ => exact w1_192
  | 3, _ => exact w1_194
  | 4, _ => exact w1_196
  | 5, _ => exact w1_198
  | 6, _ => exact w1_200
  | 7, _ => exact w1_202
  | 8, _ => exact w1_204
  | 9, _ => exact w1_206
  | 10, _ => exact w1_208
  | 11, _ => exact w1_210
  | k + 12, hk => exact absurd hk (by omega)
theorem cls_X8 : clsOK 8 RX8 TX8 12 := ⟨rfl, lay_X8, tyX8_ok, nmX8⟩
theorem lay_X9 : ∀ w ∈ u_ws RX9 TX9 48, w ∈ TB := by
  intro w hw
  unfold u_ws at hw
  obtain ⟨k, hk, rfl⟩ := List.mem_map.mp hw
  have hk := List.mem_range.mp hk
  match k, hk with
  | 0, _ => exact w3_198
  | 1, _ => exact w3_200
  | 2, _ => exact w3_202
  | 3, _ => exact w3_204
  | 4, _ => exact w3_206
  | 5, _ => exact w3_208
  | 6, _ => exact w3_210
  | 7, _ => exact w3_212
  | 8, _ => exact w3_214
  | 9, _ => exact w3_216
  | 10, _ => exact w3_218
  | 11, _ => exact w3_220
  | 12, _ => exact w3_222
  | 13, _ => exact w3_224
  | 14, _ => exact w3_226
  | 15, _ => exact w3_228
  | 16, _ => exact w3_230
  | 17, _ => exact w3_232
  | 18, _ => exact w3_234
  | 19, _ => exact w3_236
  | 20, _ => exact w3_238
  | 21, _ => exact w4_0
  | 22, _ => exact w4_2
  | 23, _ => exact w4_4
  | 24, _ => exact w4_6
  | 25, _ => exact w4_8
  | 26, _ => exact w4_10
  | 27, _ => exact w4_12
  | 28, _ => exact w4_14
  | 29, _ => exact w4_16
  | 30, _ => exact w4_18
  | 31, _ => exact w4_20
  | 32, _ => exact w4_22
  | 33, _ => exact w4_24
  | 34, _ => exact w4_26
  | 35, _ => exact w4_28
  | 36, _ => exact w4_30
  | 37, _ => exact w4_32
  | 38, _ => exact w4_34
  | 39, _ => exact w4_36
  | 40, _ => exact w4_38
  | 41, _ => exact w4_40
  | 42, _ => exact w4_42
  | 43, _ => exact w4_44
  | 44, _ => exact w4_46
  | 45, _ => exact w4_48
  | 46, _ => exact w4_50
  | 47, _ => exact w4_52
  | k + 48, hk => exact absurd hk (by omega)
theorem cls_X9 : clsOK 9 RX9 TX9 48 := ⟨rfl, lay_X9, tyX9_ok, nmX9⟩
