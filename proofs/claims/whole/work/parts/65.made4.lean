/-! ===== the class made ===== -/
section RV
variable {D : va_G} {cA : FieldType → ClassId}
def L8 : List Nat := [30, 0, 1, 2, 100, 101, 3, 4, 5, 21, 20, 102, 103, 104, 105, 106, 107, 108, 109, 110, 111, 112, 113, 114, 115, 116, 117, 10, 11, 12, 33, 34, 35, 36, 31, 118, 119, 23, 22, 120, 121, 122, 123, 124, 125, 126, 127, 128, 129, 130, 131, 132, 133, 134, 135, 13, 14, 15, 32, 136, 137, 25, 24, 138, 139, 140, 141, 142, 143, 144, 145, 146, 147, 148, 149, 150, 151, 152, 153, 16, 17, 18]
set_option maxRecDepth 20000 in
theorem gi_X8 : GI D cA mX8_init 81 6363 8 (PK cA L8 0) := by
  refine GW.start (ci := 8) 0 Mi (by decide) (fun j => rfl) (fun ad q => ?_)
  refine GW.aload_n (j := 0) dX8_init_0 rfl ?_
  refine GW.obj dX8_init_1 obj_X8 obj_I obj_C (by decide) (by decide) ?_
  refine GW.aload_n (j := 0) dX8_init_4 rfl ?_
  refine GW.smk (r := 1) (L1 := [1, 2]) dX8_init_5 dX8_init_8 dX8_init_9 cls_X7 oc_X7_init rfl rfl rfl (by decide) clI_X8_7 inst_X7 im_X7_init mlI_X8_9 ⟨by decide, by decide⟩ (Nat.le_of_ble_eq_true rfl) (by decide) (by decide) gi_X7 (by decide) (fun x hx => Mi_o (fun e => absurd (e ▸ hx) (by decide))) (by decide +kernel) (by decide +kernel) clo_nil (clo_of (by decide +kernel)) (fun ad4 h4 => ?_)
  refine GW.sref (j := 0) (r := 1) dX8_init_12 cls_X8 (by decide) rfl rfl rfl flI_X8_10 rfl (Or.inl ⟨_, rfl⟩) (uq_of (by decide) (by decide)) ?_
  refine GW.aload_n (j := 0) dX8_init_15 rfl ?_
  refine GW.smk (r := 100) (L1 := [100, 101]) dX8_init_16 dX8_init_19 dX8_init_20 cls_X6 oc_X6_init rfl rfl rfl (by decide) clI_X8_16 inst_X6 im_X6_init mlI_X8_18 ⟨by decide, by decide⟩ (Nat.le_of_ble_eq_true rfl) (by decide) (by decide) (gi_X6 (t := 0) (by decide)) (by decide) (fun x hx => Mi_o (fun e => absurd (e ▸ hx) (by decide))) (by decide +kernel) (by decide +kernel) (clo_of (by decide +kernel)) (clo_of (by decide +kernel)) (fun ad15 h15 => ?_)
  refine GW.sref (j := 1) (r := 100) dX8_init_23 cls_X8 (by decide) rfl rfl rfl flI_X8_19 rfl (Or.inl ⟨_, rfl⟩) (uq_of (by decide) (by decide)) ?_
  refine GW.aload_n (j := 0) dX8_init_26 rfl ?_
  refine GW.smk (r := 3) (L1 := [3, 4, 5]) dX8_init_27 dX8_init_30 dX8_init_31 cls_X1 oc_X1_init rfl rfl rfl (by decide) clI_X8_23 inst_X1 im_X1_init mlI_X8_25 ⟨by decide, by decide⟩ (Nat.le_of_ble_eq_true rfl) (by decide) (by decide) gi_X1 (by decide) (fun x hx => Mi_o (fun e => absurd (e ▸ hx) (by decide))) (by decide +kernel) (by decide +kernel) (clo_of (by decide +kernel)) (clo_of (by decide +kernel)) (fun ad26 h26 => ?_)
  refine GW.sref (j := 2) (r := 3) dX8_init_34 cls_X8 (by decide) rfl rfl rfl flI_X8_26 rfl (Or.inl ⟨_, rfl⟩) (uq_of (by decide) (by decide)) ?_
  refine GW.aload_n (j := 0) dX8_init_37 rfl ?_
  refine GW.smk (r := 20) (L1 := LB_0) dX8_init_38 dX8_init_41 dX8_init_42 cls_X0 oc_X0_init rfl rfl rfl (by decide) clI_X8_30 inst_X0 im_X0_init mlI_X8_32 ⟨by decide, by decide⟩ (Nat.le_of_ble_eq_true rfl) (by decide) (by decide) gi_X0_0 (by decide) (fun x hx => Mi_o (fun e => absurd (e ▸ hx) (by decide))) (by decide +kernel) (by decide +kernel) (clo_of (by decide +kernel)) (clo_of (by decide +kernel)) (fun ad37 h37 => ?_)
  refine GW.sref (j := 3) (r := 20) dX8_init_45 cls_X8 (by decide) rfl rfl rfl flI_X8_33 rfl (Or.inl ⟨_, rfl⟩) (uq_of (by decide) (by decide)) ?_
  refine GW.aload_n (j := 0) dX8_init_48 rfl ?_
  refine GW.smk (r := 10) (L1 := [10, 11, 12]) dX8_init_49 dX8_init_52 dX8_init_53 cls_X3 oc_X3_init rfl rfl rfl (by decide) clI_X8_37 inst_X3 im_X3_init mlI_X8_39 ⟨by decide, by decide⟩ (Nat.le_of_ble_eq_true rfl) (by decide) (by decide) gi_X3_0 (by decide) (fun x hx => Mi_o (fun e => absurd (e ▸ hx) (by decide))) (by decide +kernel) (by decide +kernel) (clo_of (by decide +kernel)) (clo_of (by decide +kernel)) (fun ad48 h48 => ?_)
  refine GW.sref (j := 4) (r := 10) dX8_init_56 cls_X8 (by decide) rfl rfl rfl flI_X8_40 rfl (Or.inl ⟨_, rfl⟩) (uq_of (by decide) (by decide)) ?_
  refine GW.aload_n (j := 0) dX8_init_59 rfl ?_
  refine GW.iconst dX8_init_60 ?_
  refine GW.snew (x := 30) (N := 2) dX8_init_61 (Or.inl rfl) clI_X8_44 rfl (by decide) (by decide) (by decide) (by decide) (by decide) (clo_of (by decide +kernel)) (fun ad59 _ => ?_)
  refine GW.sref (j := 5) (r := 30) dX8_init_64 cls_X8 (by decide) rfl rfl rfl flI_X8_46 rfl (Or.inr ⟨_, rfl⟩) (uq_of (by decide) (by decide)) ?_
  refine GW.aload_n (j := 0) dX8_init_67 rfl ?_
  refine GW.iconst dX8_init_68 ?_
  refine GW.sval (j := 6) (z := 1) dX8_init_69 cls_X8 (by decide) rfl rfl rfl flI_X8_50 rfl in_i1 rfl (by decide) ?_
  refine GW.aload_n (j := 0) dX8_init_72 rfl ?_
  refine GW.iconst dX8_init_73 ?_
  refine GW.sval (j := 7) (z := 1) dX8_init_74 cls_X8 (by decide) rfl rfl rfl flI_X8_54 rfl in_i1 rfl (by decide) ?_
  rw [Mi_M0]
  refine GW.aload_n (j := 0) dX8_init_77 rfl ?_
  refine GW.smk (r := 33) (L1 := [33]) dX8_init_78 dX8_init_81 dX8_init_82 cls_X2 oc_X2_init rfl rfl rfl (by decide) clI_X8_57 inst_X2 im_X2_init mlI_X8_59 ⟨by decide, by decide⟩ (Nat.le_of_ble_eq_true rfl) (by decide) (by decide) gi_X2 (by decide) (fun _ _ => rfl) (by decide +kernel) (by decide +kernel) (clo_of (by decide +kernel)) (clo_of (by decide +kernel)) (fun ad77 h77 => ?_)
  refine GW.sref (j := 8) (r := 33) dX8_init_85 cls_X8 (by decide) rfl rfl rfl flI_X8_60 rfl (Or.inl ⟨_, rfl⟩) (uq_of (by decide) (by decide)) ?_
  refine GW.aload_n (j := 0) dX8_init_88 rfl ?_
  refine GW.smk (r := 34) (L1 := [34]) dX8_init_89 dX8_init_92 dX8_init_93 cls_X4 oc_X4_init rfl rfl rfl (by decide) clI_X8_64 inst_X4 im_X4_init mlI_X8_66 ⟨by decide, by decide⟩ (Nat.le_of_ble_eq_true rfl) (by decide) (by decide) gi_X4 (by decide) (fun _ _ => rfl) (by decide +kernel) (by decide +kernel) (clo_of (by decide +kernel)) (clo_of (by decide +kernel)) (fun ad88 h88 => ?_)
  refine GW.sref (j := 9) (r := 34) dX8_init_96 cls_X8 (by decide) rfl rfl rfl flI_X8_67 rfl (Or.inl ⟨_, rfl⟩) (uq_of (by decide) (by decide)) ?_
  refine GW.aload_n (j := 0) dX8_init_99 rfl ?_
  refine GW.sipush dX8_init_100 (by decide) ?_
  refine GW.sarr (r := 35) (N := 1024) dX8_init_103 rfl (Or.inr (Or.inl rfl)) ac_int rfl (by decide) (by decide) (by decide) rfl (fun j => rfl) (rf_none rfl (by decide)) (by decide +kernel) (by decide +kernel) (clo_of (by decide +kernel)) (fun ad99 h99 => ?_)
  refine GW.sref (j := 10) (r := 35) dX8_init_105 cls_X8 (by decide) rfl rfl rfl flI_X8_71 rfl (Or.inr ⟨_, rfl⟩) (uq_of (by decide) (by decide)) ?_
  refine GW.aload_n (j := 0) dX8_init_108 rfl ?_
  refine GW.sipush dX8_init_109 (by decide) ?_
  refine GW.sarr (r := 36) (N := 1000) dX8_init_112 rfl (Or.inr (Or.inl rfl)) ac_int rfl (by decide) (by decide) (by decide) rfl (fun j => rfl) (rf_none rfl (by decide)) (by decide +kernel) (by decide +kernel) (clo_of (by decide +kernel)) (fun ad108 h108 => ?_)
  refine GW.sref (j := 11) (r := 36) dX8_init_114 cls_X8 (by decide) rfl rfl rfl flI_X8_75 rfl (Or.inr ⟨_, rfl⟩) (uq_of (by decide) (by decide)) ?_
  have e30 : ad108 30 = ad59 30 := by rw [h108 30 (by decide), h99 30 (by decide), h88 30 (by decide), h77 30 (by decide)]
  rw [ex_0 e30]
  refine GW.iconst dX8_init_117 ?_
  refine GW.istore_n (j := 1) (loc' := [(1, .int (Int32.ofInt ((0 : Nat) : Int))), (0, .ref q)]) dX8_init_118 rfl (by decide) rfl ?_
  refine GW.siter (b := 119) (off := 22) (t0 := 3) (j := 5) (x := 30) (r := 31) (i := 0) (N := 2) (L1 := LS_0) dX8_init_119 dX8_init_120 dX8_init_121 dX8_init_124 dX8_init_125 dX8_init_128 dX8_init_129 dX8_init_132 dX8_init_133 dX8_init_136 dX8_init_137 dX8_init_140 dX8_init_141 dX8_init_144 cls_X8 (by decide) rfl flI_X8_46 rfl (Or.inr ⟨_, rfl⟩) (by decide) (Or.inl rfl) rfl cls_X5 rfl oc_X5_init rfl rfl rfl (by decide) clI_X8_44 inst_X5 im_X5_init mlI_X8_78 ⟨by decide, by decide⟩ (by decide) (by decide) (by decide) gi_X5_0 (by decide) (fun _ _ => rfl) (by decide +kernel) (by decide +kernel) (clo_of (by decide +kernel)) (clo_of (by decide +kernel)) (by decide) (by decide) rfl (fun j r' hj _ => by omega) (fun adS0 _ => ?_)
  refine GW.siter (b := 119) (off := 22) (t0 := 3) (j := 5) (x := 30) (r := 32) (i := 1) (N := 2) (L1 := LS_1) dX8_init_119 dX8_init_120 dX8_init_121 dX8_init_124 dX8_init_125 dX8_init_128 dX8_init_129 dX8_init_132 dX8_init_133 dX8_init_136 dX8_init_137 dX8_init_140 dX8_init_141 dX8_init_144 cls_X8 (by decide) rfl flI_X8_46 rfl (Or.inr ⟨_, rfl⟩) (by decide) (Or.inl rfl) rfl cls_X5 rfl oc_X5_init rfl rfl rfl (by decide) clI_X8_44 inst_X5 im_X5_init mlI_X8_78 ⟨by decide, by decide⟩ (by decide) (by decide) (by decide) gi_X5_1 (by decide) (fun _ _ => rfl) (by decide +kernel) (by decide +kernel) (clo_of (by decide +kernel)) (clo_of (by decide +kernel)) (by decide) (by decide) rfl (fun j r' hj hr => by
    have : ∀ j, j < 1 → ∀ r', rfs 30 j = some r' → r' ∉ LS_1 := by decide +kernel
    exact this j hj r' hr) (fun adS1 _ => ?_)
  refine GW.iload_n (j := 0) dX8_init_119 rfl ?_
  refine GW.aload_n (j := 1) dX8_init_120 rfl ?_
  refine GW.sget (j := 5) (r := 30) dX8_init_121 cls_X8 (by decide) rfl flI_X8_46 rfl (Or.inr ⟨_, rfl⟩) (by decide) ?_
  refine GW.alenN (i := 0) (N := 2) dX8_init_124 (Or.inr (Or.inr (Or.inr (Or.inl rfl)))) rfl rfl ?_
  refine GW.icmp_ge (tgt := 147) dX8_init_125 (by decide) (by decide) (by decide) (fun _ => ?_) (fun h => absurd h (by decide))
  have hf := fl_of (o := 0) (ci := 8) (S := [36, 35, 34, 33, 30, 10, 20, 3, 100, 1]) (by decide) (by decide +kernel)
  exact GW.xdone dX8_init_147 (by decide) (by decide) rfl (hN_of (by decide) (by decide)) hf.1 rfl (no_of (by decide +kernel)) hf.2 (fun _ _ => rfl)
end RV
