/-! ===== printed by program: decode rows, block rows of J ===== -/
theorem dJ6_bitCount_0f7a4_0 : decode cJ6_bitCount_0f7a4 0 = .ok (.iload_n 0, 1) := by decide +kernel
theorem dJ6_bitCount_0f7a4_1 : decode cJ6_bitCount_0f7a4 1 = .ok (.iload_n 0, 1) := by decide +kernel
theorem dJ6_bitCount_0f7a4_2 : decode cJ6_bitCount_0f7a4 2 = .ok (.iconst 1, 1) := by decide +kernel
theorem dJ6_bitCount_0f7a4_3 : decode cJ6_bitCount_0f7a4 3 = .ok (.iushr, 1) := by decide +kernel
theorem dJ6_bitCount_0f7a4_4 : decode cJ6_bitCount_0f7a4 4 = .ok (.ldc_w 265, 3) := by decide +kernel
theorem dJ6_bitCount_0f7a4_7 : decode cJ6_bitCount_0f7a4 7 = .ok (.iand, 1) := by decide +kernel
theorem dJ6_bitCount_0f7a4_8 : decode cJ6_bitCount_0f7a4 8 = .ok (.isub, 1) := by decide +kernel
theorem dJ6_bitCount_0f7a4_9 : decode cJ6_bitCount_0f7a4 9 = .ok (.istore_n 0, 1) := by decide +kernel
theorem dJ6_bitCount_0f7a4_10 : decode cJ6_bitCount_0f7a4 10 = .ok (.iload_n 0, 1) := by decide +kernel
theorem dJ6_bitCount_0f7a4_11 : decode cJ6_bitCount_0f7a4 11 = .ok (.ldc_w 266, 3) := by decide +kernel
theorem dJ6_bitCount_0f7a4_14 : decode cJ6_bitCount_0f7a4 14 = .ok (.iand, 1) := by decide +kernel
theorem dJ6_bitCount_0f7a4_15 : decode cJ6_bitCount_0f7a4 15 = .ok (.iload_n 0, 1) := by decide +kernel
theorem dJ6_bitCount_0f7a4_16 : decode cJ6_bitCount_0f7a4 16 = .ok (.iconst 2, 1) := by decide +kernel
theorem dJ6_bitCount_0f7a4_17 : decode cJ6_bitCount_0f7a4 17 = .ok (.iushr, 1) := by decide +kernel
theorem dJ6_bitCount_0f7a4_18 : decode cJ6_bitCount_0f7a4 18 = .ok (.ldc_w 266, 3) := by decide +kernel
theorem dJ6_bitCount_0f7a4_21 : decode cJ6_bitCount_0f7a4 21 = .ok (.iand, 1) := by decide +kernel
theorem dJ6_bitCount_0f7a4_22 : decode cJ6_bitCount_0f7a4 22 = .ok (.iadd, 1) := by decide +kernel
theorem dJ6_bitCount_0f7a4_23 : decode cJ6_bitCount_0f7a4 23 = .ok (.istore_n 0, 1) := by decide +kernel
theorem dJ6_bitCount_0f7a4_24 : decode cJ6_bitCount_0f7a4 24 = .ok (.iload_n 0, 1) := by decide +kernel
theorem dJ6_bitCount_0f7a4_25 : decode cJ6_bitCount_0f7a4 25 = .ok (.iload_n 0, 1) := by decide +kernel
theorem dJ6_bitCount_0f7a4_26 : decode cJ6_bitCount_0f7a4 26 = .ok (.iconst 4, 1) := by decide +kernel
theorem dJ6_bitCount_0f7a4_27 : decode cJ6_bitCount_0f7a4 27 = .ok (.iushr, 1) := by decide +kernel
theorem dJ6_bitCount_0f7a4_28 : decode cJ6_bitCount_0f7a4 28 = .ok (.iadd, 1) := by decide +kernel
theorem dJ6_bitCount_0f7a4_29 : decode cJ6_bitCount_0f7a4 29 = .ok (.ldc_w 267, 3) := by decide +kernel
theorem dJ6_bitCount_0f7a4_32 : decode cJ6_bitCount_0f7a4 32 = .ok (.iand, 1) := by decide +kernel
theorem dJ6_bitCount_0f7a4_33 : decode cJ6_bitCount_0f7a4 33 = .ok (.istore_n 0, 1) := by decide +kernel
theorem dJ6_bitCount_0f7a4_34 : decode cJ6_bitCount_0f7a4 34 = .ok (.iload_n 0, 1) := by decide +kernel
theorem dJ6_bitCount_0f7a4_35 : decode cJ6_bitCount_0f7a4 35 = .ok (.iload_n 0, 1) := by decide +kernel
theorem dJ6_bitCount_0f7a4_36 : decode cJ6_bitCount_0f7a4 36 = .ok (.bipush 8, 2) := by decide +kernel
theorem dJ6_bitCount_0f7a4_38 : decode cJ6_bitCount_0f7a4 38 = .ok (.iushr, 1) := by decide +kernel
theorem dJ6_bitCount_0f7a4_39 : decode cJ6_bitCount_0f7a4 39 = .ok (.iadd, 1) := by decide +kernel
theorem dJ6_bitCount_0f7a4_40 : decode cJ6_bitCount_0f7a4 40 = .ok (.istore_n 0, 1) := by decide +kernel
theorem dJ6_bitCount_0f7a4_41 : decode cJ6_bitCount_0f7a4 41 = .ok (.iload_n 0, 1) := by decide +kernel
theorem dJ6_bitCount_0f7a4_42 : decode cJ6_bitCount_0f7a4 42 = .ok (.iload_n 0, 1) := by decide +kernel
theorem dJ6_bitCount_0f7a4_43 : decode cJ6_bitCount_0f7a4 43 = .ok (.bipush 16, 2) := by decide +kernel
theorem dJ6_bitCount_0f7a4_45 : decode cJ6_bitCount_0f7a4 45 = .ok (.iushr, 1) := by decide +kernel
theorem dJ6_bitCount_0f7a4_46 : decode cJ6_bitCount_0f7a4 46 = .ok (.iadd, 1) := by decide +kernel
theorem dJ6_bitCount_0f7a4_47 : decode cJ6_bitCount_0f7a4 47 = .ok (.istore_n 0, 1) := by decide +kernel
theorem dJ6_bitCount_0f7a4_48 : decode cJ6_bitCount_0f7a4 48 = .ok (.iload_n 0, 1) := by decide +kernel
theorem dJ6_bitCount_0f7a4_49 : decode cJ6_bitCount_0f7a4 49 = .ok (.bipush 63, 2) := by decide +kernel
theorem dJ6_bitCount_0f7a4_51 : decode cJ6_bitCount_0f7a4 51 = .ok (.iand, 1) := by decide +kernel
theorem dJ6_bitCount_0f7a4_52 : decode cJ6_bitCount_0f7a4 52 = .ok (.ireturn, 1) := by decide +kernel
theorem dJ7_fill_53178_0 : decode cJ7_fill_53178 0 = .ok (.iconst 0, 1) := by decide +kernel
theorem dJ7_fill_53178_1 : decode cJ7_fill_53178 1 = .ok (.istore_n 2, 1) := by decide +kernel
theorem dJ7_fill_53178_2 : decode cJ7_fill_53178 2 = .ok (.aload_n 0, 1) := by decide +kernel
theorem dJ7_fill_53178_3 : decode cJ7_fill_53178 3 = .ok (.arraylength, 1) := by decide +kernel
theorem dJ7_fill_53178_4 : decode cJ7_fill_53178 4 = .ok (.istore_n 3, 1) := by decide +kernel
theorem dJ7_fill_53178_5 : decode cJ7_fill_53178 5 = .ok (.iload_n 2, 1) := by decide +kernel
theorem dJ7_fill_53178_6 : decode cJ7_fill_53178 6 = .ok (.iload_n 3, 1) := by decide +kernel
theorem dJ7_fill_53178_7 : decode cJ7_fill_53178 7 = .ok (.if_icmp .ge 13, 3) := by decide +kernel
theorem dJ7_fill_53178_10 : decode cJ7_fill_53178 10 = .ok (.aload_n 0, 1) := by decide +kernel
theorem dJ7_fill_53178_11 : decode cJ7_fill_53178 11 = .ok (.iload_n 2, 1) := by decide +kernel
theorem dJ7_fill_53178_12 : decode cJ7_fill_53178 12 = .ok (.iload_n 1, 1) := by decide +kernel
theorem dJ7_fill_53178_13 : decode cJ7_fill_53178 13 = .ok (.iastore, 1) := by decide +kernel
theorem dJ7_fill_53178_14 : decode cJ7_fill_53178 14 = .ok (.iinc 2 1, 3) := by decide +kernel
theorem dJ7_fill_53178_17 : decode cJ7_fill_53178 17 = .ok (.goto (-12), 3) := by decide +kernel
theorem dJ7_fill_53178_20 : decode cJ7_fill_53178 20 = .ok (.return_, 1) := by decide +kernel
theorem kJ6_bitCount_0f7a4_0 {X : Scr} {M : Mem} {P : Option AV → Mem → Prop} {x0 : Int} (k : P (some (vi (zand (((zand (((zand (x0 - (zand (zushr x0 (1 : Int)) (1431655765 : Int))) (858993459 : Int)) + (zand (zushr (x0 - (zand (zushr x0 (1 : Int)) (1431655765 : Int))) (2 : Int)) (858993459 : Int))) + (zushr ((zand (x0 - (zand (zushr x0 (1 : Int)) (1431655765 : Int))) (858993459 : Int)) + (zand (zushr (x0 - (zand (zushr x0 (1 : Int)) (1431655765 : Int))) (2 : Int)) (858993459 : Int))) (4 : Int))) (252645135 : Int)) + (zushr (zand (((zand (x0 - (zand (zushr x0 (1 : Int)) (1431655765 : Int))) (858993459 : Int)) + (zand (zushr (x0 - (zand (zushr x0 (1 : Int)) (1431655765 : Int))) (2 : Int)) (858993459 : Int))) + (zushr ((zand (x0 - (zand (zushr x0 (1 : Int)) (1431655765 : Int))) (858993459 : Int)) + (zand (zushr (x0 - (zand (zushr x0 (1 : Int)) (1431655765 : Int))) (2 : Int)) (858993459 : Int))) (4 : Int))) (252645135 : Int)) (8 : Int))) + (zushr ((zand (((zand (x0 - (zand (zushr x0 (1 : Int)) (1431655765 : Int))) (858993459 : Int)) + (zand (zushr (x0 - (zand (zushr x0 (1 : Int)) (1431655765 : Int))) (2 : Int)) (858993459 : Int))) + (zushr ((zand (x0 - (zand (zushr x0 (1 : Int)) (1431655765 : Int))) (858993459 : Int)) + (zand (zushr (x0 - (zand (zushr x0 (1 : Int)) (1431655765 : Int))) (2 : Int)) (858993459 : Int))) (4 : Int))) (252645135 : Int)) + (zushr (zand (((zand (x0 - (zand (zushr x0 (1 : Int)) (1431655765 : Int))) (858993459 : Int)) + (zand (zushr (x0 - (zand (zushr x0 (1 : Int)) (1431655765 : Int))) (2 : Int)) (858993459 : Int))) + (zushr ((zand (x0 - (zand (zushr x0 (1 : Int)) (1431655765 : Int))) (858993459 : Int)) + (zand (zushr (x0 - (zand (zushr x0 (1 : Int)) (1431655765 : Int))) (2 : Int)) (858993459 : Int))) (4 : Int))) (252645135 : Int)) (8 : Int))) (16 : Int))) (63 : Int)))) M) (h1 : -2147483648 ≤ (x0 - (zand (zushr x0 (1 : Int)) (1431655765 : Int))) ∧ (x0 - (zand (zushr x0 (1 : Int)) (1431655765 : Int))) ≤ 2147483647 := by omega) (h2 : -2147483648 ≤ ((zand (x0 - (zand (zushr x0 (1 : Int)) (1431655765 : Int))) (858993459 : Int)) + (zand (zushr (x0 - (zand (zushr x0 (1 : Int)) (1431655765 : Int))) (2 : Int)) (858993459 : Int))) ∧ ((zand (x0 - (zand (zushr x0 (1 : Int)) (1431655765 : Int))) (858993459 : Int)) + (zand (zushr (x0 - (zand (zushr x0 (1 : Int)) (1431655765 : Int))) (2 : Int)) (858993459 : Int))) ≤ 2147483647 := by omega) (h3 : -2147483648 ≤ (((zand (x0 - (zand (zushr x0 (1 : Int)) (1431655765 : Int))) (858993459 : Int)) + (zand (zushr (x0 - (zand (zushr x0 (1 : Int)) (1431655765 : Int))) (2 : Int)) (858993459 : Int))) + (zushr ((zand (x0 - (zand (zushr x0 (1 : Int)) (1431655765 : Int))) (858993459 : Int)) + (zand (zushr (x0 - (zand (zushr x0 (1 : Int)) (1431655765 : Int))) (2 : Int)) (858993459 : Int))) (4 : Int))) ∧ (((zand (x0 - (zand (zushr x0 (1 : Int)) (1431655765 : Int))) (858993459 : Int)) + (zand (zushr (x0 - (zand (zushr x0 (1 : Int)) (1431655765 : Int))) (2 : Int)) (858993459 : Int))) + (zushr ((zand (x0 - (zand (zushr x0 (1 : Int)) (1431655765 : Int))) (858993459 : Int)) + (zand (zushr (x0 - (zand (zushr x0 (1 : Int)) (1431655765 : Int))) (2 : Int)) (858993459 : Int))) (4 : Int))) ≤ 2147483647 := by omega) (h4 : -2147483648 ≤ ((zand (((zand (x0 - (zand (zushr x0 (1 : Int)) (1431655765 : Int))) (858993459 : Int)) + (zand (zushr (x0 - (zand (zushr x0 (1 : Int)) (1431655765 : Int))) (2 : Int)) (858993459 : Int))) + (zushr ((zand (x0 - (zand (zushr x0 (1 : Int)) (1431655765 : Int))) (858993459 : Int)) + (zand (zushr (x0 - (zand (zushr x0 (1 : Int)) (1431655765 : Int))) (2 : Int)) (858993459 : Int))) (4 : Int))) (252645135 : Int)) + (zushr (zand (((zand (x0 - (zand (zushr x0 (1 : Int)) (1431655765 : Int))) (858993459 : Int)) + (zand (zushr (x0 - (zand (zushr x0 (1 : Int)) (1431655765 : Int))) (2 : Int)) (858993459 : Int))) + (zushr ((zand (x0 - (zand (zushr x0 (1 : Int)) (1431655765 : Int))) (858993459 : Int)) + (zand (zushr (x0 - (zand (zushr x0 (1 : Int)) (1431655765 : Int))) (2 : Int)) (858993459 : Int))) (4 : Int))) (252645135 : Int)) (8 : Int))) ∧ ((zand (((zand (x0 - (zand (zushr x0 (1 : Int)) (1431655765 : Int))) (858993459 : Int)) + (zand (zushr (x0 - (zand (zushr x0 (1 : Int)) (1431655765 : Int))) (2 : Int)) (858993459 : Int))) + (zushr ((zand (x0 - (zand (zushr x0 (1 : Int)) (1431655765 : Int))) (858993459 : Int)) + (zand (zushr (x0 - (zand (zushr x0 (1 : Int)) (1431655765 : Int))) (2 : Int)) (858993459 : Int))) (4 : Int))) (252645135 : Int)) + (zushr (zand (((zand (x0 - (zand (zushr x0 (1 : Int)) (1431655765 : Int))) (858993459 : Int)) + (zand (zushr (x0 - (zand (zushr x0 (1 : Int)) (1431655765 : Int))) (2 : Int)) (858993459 : Int))) + (zushr ((zand (x0 - (zand (zushr x0 (1 : Int)) (1431655765 : Int))) (858993459 : Int)) + (zand (zushr (x0 - (zand (zushr x0 (1 : Int)) (1431655765 : Int))) (2 : Int)) (858993459 : Int))) (4 : Int))) (252645135 : Int)) (8 : Int))) ≤ 2147483647 := by omega) (h5 : -2147483648 ≤ (((zand (((zand (x0 - (zand (zushr x0 (1 : Int)) (1431655765 : Int))) (858993459 : Int)) + (zand (zushr (x0 - (zand (zushr x0 (1 : Int)) (1431655765 : Int))) (2 : Int)) (858993459 : Int))) + (zushr ((zand (x0 - (zand (zushr x0 (1 : Int)) (1431655765 : Int))) (858993459 : Int)) + (zand (zushr (x0 - (zand (zushr x0 (1 : Int)) (1431655765 : Int))) (2 : Int)) (858993459 : Int))) (4 : Int))) (252645135 : Int)) + (zushr (zand (((zand (x0 - (zand (zushr x0 (1 : Int)) (1431655765 : Int))) (858993459 : Int)) + (zand (zushr (x0 - (zand (zushr x0 (1 : Int)) (1431655765 : Int))) (2 : Int)) (858993459 : Int))) + (zushr ((zand (x0 - (zand (zushr x0 (1 : Int)) (1431655765 : Int))) (858993459 : Int)) + (zand (zushr (x0 - (zand (zushr x0 (1 : Int)) (1431655765 : Int))) (2 : Int)) (858993459 : Int))) (4 : Int))) (252645135 : Int)) (8 : Int))) + (zushr ((zand (((zand (x0 - (zand (zushr x0 (1 : Int)) (1431655765 : Int))) (858993459 : Int)) + (zand (zushr (x0 - (zand (zushr x0 (1 : Int)) (1431655765 : Int))) (2 : Int)) (858993459 : Int))) + (zushr ((zand (x0 - (zand (zushr x0 (1 : Int)) (1431655765 : Int))) (858993459 : Int)) + (zand (zushr (x0 - (zand (zushr x0 (1 : Int)) (1431655765 : Int))) (2 : Int)) (858993459 : Int))) (4 : Int))) (252645135 : Int)) + (zushr (zand (((zand (x0 - (zand (zushr x0 (1 : Int)) (1431655765 : Int))) (858993459 : Int)) + (zand (zushr (x0 - (zand (zushr x0 (1 : Int)) (1431655765 : Int))) (2 : Int)) (858993459 : Int))) + (zushr ((zand (x0 - (zand (zushr x0 (1 : Int)) (1431655765 : Int))) (858993459 : Int)) + (zand (zushr (x0 - (zand (zushr x0 (1 : Int)) (1431655765 : Int))) (2 : Int)) (858993459 : Int))) (4 : Int))) (252645135 : Int)) (8 : Int))) (16 : Int))) ∧ (((zand (((zand (x0 - (zand (zushr x0 (1 : Int)) (1431655765 : Int))) (858993459 : Int)) + (zand (zushr (x0 - (zand (zushr x0 (1 : Int)) (1431655765 : Int))) (2 : Int)) (858993459 : Int))) + (zushr ((zand (x0 - (zand (zushr x0 (1 : Int)) (1431655765 : Int))) (858993459 : Int)) + (zand (zushr (x0 - (zand (zushr x0 (1 : Int)) (1431655765 : Int))) (2 : Int)) (858993459 : Int))) (4 : Int))) (252645135 : Int)) + (zushr (zand (((zand (x0 - (zand (zushr x0 (1 : Int)) (1431655765 : Int))) (858993459 : Int)) + (zand (zushr (x0 - (zand (zushr x0 (1 : Int)) (1431655765 : Int))) (2 : Int)) (858993459 : Int))) + (zushr ((zand (x0 - (zand (zushr x0 (1 : Int)) (1431655765 : Int))) (858993459 : Int)) + (zand (zushr (x0 - (zand (zushr x0 (1 : Int)) (1431655765 : Int))) (2 : Int)) (858993459 : Int))) (4 : Int))) (252645135 : Int)) (8 : Int))) + (zushr ((zand (((zand (x0 - (zand (zushr x0 (1 : Int)) (1431655765 : Int))) (858993459 : Int)) + (zand (zushr (x0 - (zand (zushr x0 (1 : Int)) (1431655765 : Int))) (2 : Int)) (858993459 : Int))) + (zushr ((zand (x0 - (zand (zushr x0 (1 : Int)) (1431655765 : Int))) (858993459 : Int)) + (zand (zushr (x0 - (zand (zushr x0 (1 : Int)) (1431655765 : Int))) (2 : Int)) (858993459 : Int))) (4 : Int))) (252645135 : Int)) + (zushr (zand (((zand (x0 - (zand (zushr x0 (1 : Int)) (1431655765 : Int))) (858993459 : Int)) + (zand (zushr (x0 - (zand (zushr x0 (1 : Int)) (1431655765 : Int))) (2 : Int)) (858993459 : Int))) + (zushr ((zand (x0 - (zand (zushr x0 (1 : Int)) (1431655765 : Int))) (858993459 : Int)) + (zand (zushr (x0 - (zand (zushr x0 (1 : Int)) (1431655765 : Int))) (2 : Int)) (858993459 : Int))) (4 : Int))) (252645135 : Int)) (8 : Int))) (16 : Int))) ≤ 2147483647 := by omega) : Runs X mJ6_bitCount_0f7a4 0 [(0, vi x0)] [] M P := by
  refine Runs.iload_n (j := 0) dJ6_bitCount_0f7a4_0 rfl ?_
  refine Runs.iload_n (j := 0) dJ6_bitCount_0f7a4_1 rfl ?_
  refine Runs.iconst dJ6_bitCount_0f7a4_2 (by decide) ?_
  refine Runs.iushr dJ6_bitCount_0f7a4_3 ?_
  refine Runs.ldcw (z := 1431655765) dJ6_bitCount_0f7a4_4 w2_151 (by decide) (by decide) ?_
  refine Runs.iand dJ6_bitCount_0f7a4_7 ?_
  refine Runs.isub dJ6_bitCount_0f7a4_8 h1 ?_
  refine Runs.istore_n (loc' := [(0, vi (x0 - (zand (zushr x0 (1 : Int)) (1431655765 : Int))))]) dJ6_bitCount_0f7a4_9 rfl (by decide) rfl ?_
  refine Runs.iload_n (j := 0) dJ6_bitCount_0f7a4_10 rfl ?_
  refine Runs.ldcw (z := 858993459) dJ6_bitCount_0f7a4_11 w2_152 (by decide) (by decide) ?_
  refine Runs.iand dJ6_bitCount_0f7a4_14 ?_
  refine Runs.iload_n (j := 0) dJ6_bitCount_0f7a4_15 rfl ?_
  refine Runs.iconst dJ6_bitCount_0f7a4_16 (by decide) ?_
  refine Runs.iushr dJ6_bitCount_0f7a4_17 ?_
  refine Runs.ldcw (z := 858993459) dJ6_bitCount_0f7a4_18 w2_152 (by decide) (by decide) ?_
  refine Runs.iand dJ6_bitCount_0f7a4_21 ?_
  refine Runs.iadd dJ6_bitCount_0f7a4_22 h2 ?_
  refine Runs.istore_n (loc' := [(0, vi ((zand (x0 - (zand (zushr x0 (1 : Int)) (1431655765 : Int))) (858993459 : Int)) + (zand (zushr (x0 - (zand (zushr x0 (1 : Int)) (1431655765 : Int))) (2 : Int)) (858993459 : Int))))]) dJ6_bitCount_0f7a4_23 rfl (by decide) rfl ?_
  refine Runs.iload_n (j := 0) dJ6_bitCount_0f7a4_24 rfl ?_
  refine Runs.iload_n (j := 0) dJ6_bitCount_0f7a4_25 rfl ?_
  refine Runs.iconst dJ6_bitCount_0f7a4_26 (by decide) ?_
  refine Runs.iushr dJ6_bitCount_0f7a4_27 ?_
  refine Runs.iadd dJ6_bitCount_0f7a4_28 h3 ?_
  refine Runs.ldcw (z := 252645135) dJ6_bitCount_0f7a4_29 w2_153 (by decide) (by decide) ?_
  refine Runs.iand dJ6_bitCount_0f7a4_32 ?_
  refine Runs.istore_n (loc' := [(0, vi (zand (((zand (x0 - (zand (zushr x0 (1 : Int)) (1431655765 : Int))) (858993459 : Int)) + (zand (zushr (x0 - (zand (zushr x0 (1 : Int)) (1431655765 : Int))) (2 : Int)) (858993459 : Int))) + (zushr ((zand (x0 - (zand (zushr x0 (1 : Int)) (1431655765 : Int))) (858993459 : Int)) + (zand (zushr (x0 - (zand (zushr x0 (1 : Int)) (1431655765 : Int))) (2 : Int)) (858993459 : Int))) (4 : Int))) (252645135 : Int)))]) dJ6_bitCount_0f7a4_33 rfl (by decide) rfl ?_
  refine Runs.iload_n (j := 0) dJ6_bitCount_0f7a4_34 rfl ?_
  refine Runs.iload_n (j := 0) dJ6_bitCount_0f7a4_35 rfl ?_
  refine Runs.bipush dJ6_bitCount_0f7a4_36 (by decide) (by decide) ?_
  refine Runs.iushr dJ6_bitCount_0f7a4_38 ?_
  refine Runs.iadd dJ6_bitCount_0f7a4_39 h4 ?_
  refine Runs.istore_n (loc' := [(0, vi ((zand (((zand (x0 - (zand (zushr x0 (1 : Int)) (1431655765 : Int))) (858993459 : Int)) + (zand (zushr (x0 - (zand (zushr x0 (1 : Int)) (1431655765 : Int))) (2 : Int)) (858993459 : Int))) + (zushr ((zand (x0 - (zand (zushr x0 (1 : Int)) (1431655765 : Int))) (858993459 : Int)) + (zand (zushr (x0 - (zand (zushr x0 (1 : Int)) (1431655765 : Int))) (2 : Int)) (858993459 : Int))) (4 : Int))) (252645135 : Int)) + (zushr (zand (((zand (x0 - (zand (zushr x0 (1 : Int)) (1431655765 : Int))) (858993459 : Int)) + (zand (zushr (x0 - (zand (zushr x0 (1 : Int)) (1431655765 : Int))) (2 : Int)) (858993459 : Int))) + (zushr ((zand (x0 - (zand (zushr x0 (1 : Int)) (1431655765 : Int))) (858993459 : Int)) + (zand (zushr (x0 - (zand (zushr x0 (1 : Int)) (1431655765 : Int))) (2 : Int)) (858993459 : Int))) (4 : Int))) (252645135 : Int)) (8 : Int))))]) dJ6_bitCount_0f7a4_40 rfl (by decide) rfl ?_
  refine Runs.iload_n (j := 0) dJ6_bitCount_0f7a4_41 rfl ?_
  refine Runs.iload_n (j := 0) dJ6_bitCount_0f7a4_42 rfl ?_
  refine Runs.bipush dJ6_bitCount_0f7a4_43 (by decide) (by decide) ?_
  refine Runs.iushr dJ6_bitCount_0f7a4_45 ?_
  refine Runs.iadd dJ6_bitCount_0f7a4_46 h5 ?_
  refine Runs.istore_n (loc' := [(0, vi (((zand (((zand (x0 - (zand (zushr x0 (1 : Int)) (1431655765 : Int))) (858993459 : Int)) + (zand (zushr (x0 - (zand (zushr x0 (1 : Int)) (1431655765 : Int))) (2 : Int)) (858993459 : Int))) + (zushr ((zand (x0 - (zand (zushr x0 (1 : Int)) (1431655765 : Int))) (858993459 : Int)) + (zand (zushr (x0 - (zand (zushr x0 (1 : Int)) (1431655765 : Int))) (2 : Int)) (858993459 : Int))) (4 : Int))) (252645135 : Int)) + (zushr (zand (((zand (x0 - (zand (zushr x0 (1 : Int)) (1431655765 : Int))) (858993459 : Int)) + (zand (zushr (x0 - (zand (zushr x0 (1 : Int)) (1431655765 : Int))) (2 : Int)) (858993459 : Int))) + (zushr ((zand (x0 - (zand (zushr x0 (1 : Int)) (1431655765 : Int))) (858993459 : Int)) + (zand (zushr (x0 - (zand (zushr x0 (1 : Int)) (1431655765 : Int))) (2 : Int)) (858993459 : Int))) (4 : Int))) (252645135 : Int)) (8 : Int))) + (zushr ((zand (((zand (x0 - (zand (zushr x0 (1 : Int)) (1431655765 : Int))) (858993459 : Int)) + (zand (zushr (x0 - (zand (zushr x0 (1 : Int)) (1431655765 : Int))) (2 : Int)) (858993459 : Int))) + (zushr ((zand (x0 - (zand (zushr x0 (1 : Int)) (1431655765 : Int))) (858993459 : Int)) + (zand (zushr (x0 - (zand (zushr x0 (1 : Int)) (1431655765 : Int))) (2 : Int)) (858993459 : Int))) (4 : Int))) (252645135 : Int)) + (zushr (zand (((zand (x0 - (zand (zushr x0 (1 : Int)) (1431655765 : Int))) (858993459 : Int)) + (zand (zushr (x0 - (zand (zushr x0 (1 : Int)) (1431655765 : Int))) (2 : Int)) (858993459 : Int))) + (zushr ((zand (x0 - (zand (zushr x0 (1 : Int)) (1431655765 : Int))) (858993459 : Int)) + (zand (zushr (x0 - (zand (zushr x0 (1 : Int)) (1431655765 : Int))) (2 : Int)) (858993459 : Int))) (4 : Int))) (252645135 : Int)) (8 : Int))) (16 : Int))))]) dJ6_bitCount_0f7a4_47 rfl (by decide) rfl ?_
  refine Runs.iload_n (j := 0) dJ6_bitCount_0f7a4_48 rfl ?_
  refine Runs.bipush dJ6_bitCount_0f7a4_49 (by decide) (by decide) ?_
  refine Runs.iand dJ6_bitCount_0f7a4_51 ?_
  exact Runs.reti dJ6_bitCount_0f7a4_52 rfl k
theorem kJ7_fill_53178_0 {X : Scr} {M : Mem} {P : Option AV → Mem → Prop} {p0 n0 : Nat} {x1 : Int} (k : Runs X mJ7_fill_53178 5 [(0, vr p0), (1, vi x1), (2, vi (0 : Int)), (3, vi ((n0 : Nat) : Int))] [] M P) (hk_p0 : kd p0 = some (.inr (.int, n0)) := by first | assumption | rfl) (h1 : n0 < 2147483648 := by omega) : Runs X mJ7_fill_53178 0 [(0, vr p0), (1, vi x1)] [] M P := by
  refine Runs.iconst dJ7_fill_53178_0 (by decide) ?_
  refine Runs.istore_n (loc' := [(0, vr p0), (1, vi x1), (2, vi (0 : Int))]) dJ7_fill_53178_1 rfl (by decide) rfl ?_
  refine Runs.aload_n (j := 0) dJ7_fill_53178_2 rfl ?_
  refine Runs.alen dJ7_fill_53178_3 hk_p0 h1 ?_
  refine Runs.istore_n (loc' := [(0, vr p0), (1, vi x1), (2, vi (0 : Int)), (3, vi ((n0 : Nat) : Int))]) dJ7_fill_53178_4 rfl (by decide) rfl ?_
  exact k
theorem kJ7_fill_53178_5 {X : Scr} {M : Mem} {P : Option AV → Mem → Prop} {p0 n0 : Nat} {x1 x2 x3 : Int} (k1 : x3 ≤ x2 → Runs X mJ7_fill_53178 20 [] [] M P) (k2 : x2 < x3 → Runs X mJ7_fill_53178 10 [(0, vr p0), (1, vi x1), (2, vi x2), (3, vi x3)] [] M P) (hk_p0 : kd p0 = some (.inr (.int, n0)) := by first | assumption | rfl) : Runs X mJ7_fill_53178 5 [(0, vr p0), (1, vi x1), (2, vi x2), (3, vi x3)] [] M P := by
  refine Runs.iload_n (j := 2) dJ7_fill_53178_5 rfl ?_
  refine Runs.iload_n (j := 3) dJ7_fill_53178_6 rfl ?_
  refine Runs.icmp_ge (tgt := 20) dJ7_fill_53178_7 (by decide) (fun h => ?_) (fun h => ?_)
  · refine Runs.picks (loc' := []) [] rfl ?_
    exact k1 h
  · exact k2 h
theorem kJ7_fill_53178_10 {X : Scr} {M : Mem} {P : Option AV → Mem → Prop} {p0 n0 : Nat} {x1 x2 x3 : Int} (k : Runs X mJ7_fill_53178 5 [(0, vr p0), (1, vi x1), (2, vi (x2 + (1 : Int))), (3, vi x3)] [] (up2 M p0 (x2).toNat x1) P) (hk_p0 : kd p0 = some (.inr (.int, n0)) := by first | assumption | rfl) (h1 : 0 ≤ x2 := by omega) (h2 : x2 < ((n0 : Nat) : Int) := by omega) (h3 : -2147483648 ≤ (x2 + (1 : Int)) ∧ (x2 + (1 : Int)) ≤ 2147483647 := by omega) : Runs X mJ7_fill_53178 10 [(0, vr p0), (1, vi x1), (2, vi x2), (3, vi x3)] [] M P := by
  refine Runs.aload_n (j := 0) dJ7_fill_53178_10 rfl ?_
  refine Runs.iload_n (j := 2) dJ7_fill_53178_11 rfl ?_
  refine Runs.iload_n (j := 1) dJ7_fill_53178_12 rfl ?_
  refine Runs.iast dJ7_fill_53178_13 hk_p0 h1 h2 ?_
  refine Runs.iinc (k := 2) (loc' := [(0, vr p0), (1, vi x1), (2, vi (x2 + (1 : Int))), (3, vi x3)]) dJ7_fill_53178_14 rfl h3 (by decide) rfl ?_
  refine Runs.goto (tgt := 5) dJ7_fill_53178_17 (by decide) ?_
  exact k
theorem kJ7_fill_53178_20 {X : Scr} {M : Mem} {P : Option AV → Mem → Prop} (k : P none M) : Runs X mJ7_fill_53178 20 [] [] M P := by
  exact Runs.ret0 dJ7_fill_53178_20 rfl k
