/-! ===== the class and the model made ===== -/
def Mi : Mem := fun x => if x = 0 then fun _ => 0 else M0 x
theorem Mi_o {x : Nat} (h : x ≠ 0) : M0 x = Mi x := (if_neg h).symm
theorem Mi_M0 : up2 (up2 Mi 0 6 1) 0 7 1 = M0 := by
  funext o j
  by_cases ho : o = 0
  · subst ho
    show _ = if j = 6 ∨ j = 7 then (1 : Int) else 0
    by_cases h7 : j = 7
    · rw [h7, up2_eq]; rfl
    · by_cases h6 : j = 6
      · rw [h6, up2_j (by decide), up2_eq]; rfl
      · rw [up2_j h7, up2_j h6, if_neg (by omega)]; rfl
  · rw [up2_o ho, up2_o ho, ← Mi_o ho]
def Mj (i : Nat) : Mem := fun x => if x = 331 ∨ x = 332 then (fun j => if j < i then 1 else 0) else M0 x
def Mk : Mem := fun x => if x = 200 ∨ x = 331 ∨ x = 332 then fun _ => 0 else M0 x
theorem Mk_Mj : up2 (up2 Mk 200 4 1) 200 5 1 = Mj 0 := by
  funext o j
  by_cases ho : o = 200
  · subst ho
    show _ = if j = 4 ∨ j = 5 then (1 : Int) else 0
    by_cases h7 : j = 5
    · rw [h7, up2_eq]; rfl
    · by_cases h6 : j = 4
      · rw [h6, up2_j (by decide), up2_eq]; rfl
      · rw [up2_j h7, up2_j h6, if_neg (by omega)]; rfl
  · rw [up2_o ho, up2_o ho]
    unfold Mk Mj
    by_cases h3 : o = 331 ∨ o = 332
    · rw [if_pos (Or.inr h3), if_pos h3, if_neg (Nat.not_lt_zero j)]
    · rw [if_neg (by omega), if_neg h3]
theorem Mj_S {i : Nat} : up2 (up2 (Mj i) 331 i 1) 332 i 1 = Mj (i + 1) := by
  funext o j
  by_cases h1 : o = 331
  · subst h1
    rw [up2_o (by decide)]
    show _ = if j < i + 1 then (1 : Int) else 0
    by_cases hj : j = i
    · rw [hj, up2_eq, if_pos (by omega)]
    · rw [up2_j hj]
      show (if j < i then (1 : Int) else 0) = _
      by_cases h2 : j < i
      · rw [if_pos h2, if_pos (by omega)]
      · rw [if_neg h2, if_neg (by omega)]
  · by_cases h2 : o = 332
    · subst h2
      show _ = if j < i + 1 then (1 : Int) else 0
      by_cases hj : j = i
      · rw [hj, up2_eq, if_pos (by omega)]
      · rw [up2_j hj, up2_o (by decide)]
        show (if j < i then (1 : Int) else 0) = _
        by_cases h2 : j < i
        · rw [if_pos h2, if_pos (by omega)]
        · rw [if_neg h2, if_neg (by omega)]
    · rw [up2_o h2, up2_o h1]
      unfold Mj
      rw [if_neg (by omega), if_neg (by omega)]
theorem Mj_16 : M0 = Mj 16 := by
  funext o j
  unfold Mj
  by_cases h : o = 331 ∨ o = 332
  · rw [if_pos h]
    rcases h with rfl | rfl <;> rfl
  · rw [if_neg h]
theorem ex_0 {cA : FieldType → ClassId} {ad ad' : Nat → Nat} {x N : Nat} {cn : String} (h : ad' x = ad x) : ex cA ad x cn N 0 = ex cA ad' x cn N 0 := by
  have e : ∀ a : Nat → Nat, sf x a 0 = fun _ => none := fun a => funext (fun j => if_neg (Nat.not_lt_zero j))
  unfold ex
  rw [h, e, e]
theorem uq_200 {i j : Nat} (h : rfs 200 i = some (300 + j)) : i = j := by
  have e : rfs 200 i = some (300 + i) := by
    unfold rfs
    rw [if_neg (by decide)]
    rfl
  rw [e] at h
  have := Option.some.inj h
  omega
section RU
variable {D : va_G} {cA : FieldType → ClassId} {m : MR} {mc ms pc k n : Nat} {loc loc' : List (Nat × Value)} {st : List Value} {ws E : va_W} {P : va_W → Prop} {ad : Nat → Nat} {M : Mem} {h o ci : Nat} {S L : List Nat}
theorem pk_set {i r N : Nat} {ix : Nat} {z : Int} (hi : L[i]? = some r) (hnd : va_nd L = true) (hk : kd r = some (.inr (.int, N))) : (pk cA ad M L).set i (ad r, .inl (cA .int, N, .inl (upd (fun j => Int32.ofInt (M r j)) ix (Int32.ofInt z)))) = pk cA ad (up2 M r ix z) L := by
  apply List.ext_getElem?
  intro j
  have hl : i < (pk cA ad M L).length := by unfold pk; rw [List.length_map]; exact (List.getElem?_eq_some_iff.mp hi).1
  by_cases hj : j = i
  · subst hj
    rw [List.getElem?_set_self hl]
    unfold pk
    rw [List.getElem?_map, hi, Option.map_some, ent_a hk]
    have e : arP ad (up2 M r ix z) r .int = .inl (upd (fun j => Int32.ofInt (M r j)) ix (Int32.ofInt z)) := by
      show Sum.inl _ = Sum.inl _
      congr 1
      funext y
      unfold upd
      by_cases hy : y = ix
      · simp [hy, up2]
      · simp [hy, up2]
    rw [e]
  · rw [List.getElem?_set_ne (Ne.symm hj)]
    unfold pk
    rw [List.getElem?_map, List.getElem?_map]
    cases hq : L[j]? with
    | none => rfl
    | some o' =>
      have hne : o' ≠ r := fun e => hj (va_nd_inj L hnd j i r (by rw [hq, e]) hi)
      rw [Option.map_some, Option.map_some, ent_cg (ad' := ad) (ad := ad) (M' := up2 M r ix z) (M := M) (fun _ _ _ => rfl) (funext (fun y => up2_o hne))]
theorem GW.siast {i r N : Nat} {ix z : Int} (hd : decode m.2.1 pc = .ok (.iastore, 1)) (hi : L[i]? = some r) (hnd : va_nd L = true) (ho : o ≠ r) (hk : kd r = some (.inr (.int, N))) (hin : 0 ≤ ix ∧ ix < (N : Int)) (hN : N < 10000) (kk : GW D cA m mc ms (pc + 1) loc st (E ++ gs cA ad (up2 M r ix.toNat z) h o ci S L) k n P) : GW D cA m mc ms pc loc (.int (Int32.ofInt z) :: .int (Int32.ofInt ix) :: .ref (ad r) :: st) (E ++ gs cA ad M h o ci S L) k n P := by
  have hat : (E ++ gs cA ad M h o ci S L)[E.length + 1 + i]? = some (ad r, .inl (cA .int, N, .inl (fun j => Int32.ofInt (M r j)))) := by
    rw [List.getElem?_append_right (by omega), show E.length + 1 + i - E.length = i + 1 by omega]
    show (pk cA ad M L)[i]? = _
    unfold pk
    rw [List.getElem?_map, hi, Option.map_some, ent_a hk]
    rfl
  refine GW.iast hd hat hin hN ?_ kk
  rw [List.set_append_right _ _ (by omega), show E.length + 1 + i - E.length = i + 1 by omega]
  show E ++ ((h, _) :: (pk cA ad M L).set i _) = E ++ ((h, _) :: pk cA ad (up2 M r ix.toNat z) L)
  rw [pk_set hi hnd hk, fdP_cg (ad' := ad) (ad := ad) (S' := S) (S := S) (M' := up2 M r ix.toNat z) (M := M) (fun _ _ _ => ⟨Iff.rfl, fun _ => rfl⟩) (funext (fun y => up2_o ho))]
end RU
/-! ===== the model made ===== -/
section RW
variable {D : va_G} {cA : FieldType → ClassId}
def L9 : List Nat := [301, 307, 308, 309, 310, 311, 312, 313, 314, 316, 317, 322, 323, 324, 325, 326, 327, 328, 329, 331, 332, 333, 334, 335, 336, 337, 338, 342, 343, 347]
theorem n200 {j r : Nat} (h : rfs 200 j = some r) : r ≠ 200 := by
  have e : rfs 200 j = some (300 + j) := by
    unfold rfs
    rw [if_neg (by decide)]
    rfl
  rw [e] at h
  have := Option.some.inj h
  omega
def S9 : List Nat := [347, 343, 342, 338, 337, 336, 335, 334, 333, 332, 331, 329, 328, 327, 326, 325, 324, 323, 322, 317, 316, 314, 313, 312, 311, 310, 309, 308, 307, 301]
theorem f200 : ∀ j r, j < nFd 9 → rfs 200 j = some r → r ∈ S9 ∨ plainT (ftC 9 j) = true := by
  intro j r hj h
  have e : rfs 200 j = some (300 + j) := by
    unfold rfs
    rw [if_neg (by decide)]
    rfl
  rw [e] at h
  have h2 := Option.some.inj h
  subst h2
  have k : ∀ j, j < 48 → 300 + j ∈ S9 ∨ plainT (ftC 9 j) = true := by decide +kernel
  exact k j hj
set_option maxRecDepth 20000 in
theorem gi_X9 : GI D cA mX9_init 30 4602 9 (PK cA (200 :: L9) 200) := by
  refine GW.start (ci := 9) 200 Mk (by decide) (fun j => rfl) (fun ad q => ?_)
  refine GW.aload_n (j := 0) dX9_init_0 rfl ?_
  refine GW.obj dX9_init_1 obj_X9 obj_I obj_C (by decide) (by decide) ?_
  refine GW.aload_n (j := 0) dX9_init_4 rfl ?_
  refine GW.bipush dX9_init_5 (by decide) ?_
  refine GW.sarr (r := 301) (N := 72) dX9_init_7 rfl (Or.inr (Or.inl rfl)) ac_int rfl (by decide) (by decide) (by decide) rfl (fun j => rfl) (rf_none rfl (by decide)) (by decide +kernel) (by decide +kernel) clo_nil (fun ad4 h4 => ?_)
  refine GW.sref (j := 1) (r := 301) dX9_init_9 cls_X9 (by decide) rfl rfl rfl flI_X9_7 rfl (Or.inr ⟨_, rfl⟩) (fun j' h => uq_200 (j := 1) h) ?_
  refine GW.aload_n (j := 0) dX9_init_12 rfl ?_
  refine GW.iconst dX9_init_13 ?_
  refine GW.sval (j := 4) (z := 1) dX9_init_14 cls_X9 (by decide) rfl rfl rfl flI_X9_13 rfl in_i1 rfl (by decide) ?_
  refine GW.aload_n (j := 0) dX9_init_17 rfl ?_
  refine GW.iconst dX9_init_18 ?_
  refine GW.sval (j := 5) (z := 1) dX9_init_19 cls_X9 (by decide) rfl rfl rfl flI_X9_17 rfl in_i1 rfl (by decide) ?_
  rw [Mk_Mj]
  refine GW.aload_n (j := 0) dX9_init_22 rfl ?_
  refine GW.bipush dX9_init_23 (by decide) ?_
  refine GW.sarr (r := 307) (N := 10) dX9_init_25 rfl (Or.inr (Or.inl rfl)) ac_int rfl (by decide) (by decide) (by decide) rfl (fun j => rfl) (rf_none rfl (by decide)) (by decide +kernel) (by decide +kernel) (clo_of (by decide +kernel)) (fun ad22 h22 => ?_)
  refine GW.sref (j := 7) (r := 307) dX9_init_27 cls_X9 (by decide) rfl rfl rfl flI_X9_20 rfl (Or.inr ⟨_, rfl⟩) (fun j' h => uq_200 (j := 7) h) ?_
  refine GW.aload_n (j := 0) dX9_init_30 rfl ?_
  refine GW.bipush dX9_init_31 (by decide) ?_
  refine GW.sarr (r := 308) (N := 10) dX9_init_33 rfl (Or.inr (Or.inr rfl)) ac_boolean rfl (by decide) (by decide) (by decide) rfl (fun j => rfl) (rf_none rfl (by decide)) (by decide +kernel) (by decide +kernel) (clo_of (by decide +kernel)) (fun ad30 h30 => ?_)
  refine GW.sref (j := 8) (r := 308) dX9_init_35 cls_X9 (by decide) rfl rfl rfl flI_X9_23 rfl (Or.inr ⟨_, rfl⟩) (fun j' h => uq_200 (j := 8) h) ?_
  refine GW.aload_n (j := 0) dX9_init_38 rfl ?_
  refine GW.bipush dX9_init_39 (by decide) ?_
  refine GW.sarr (r := 309) (N := 10) dX9_init_41 rfl (Or.inr (Or.inl rfl)) ac_int rfl (by decide) (by decide) (by decide) rfl (fun j => rfl) (rf_none rfl (by decide)) (by decide +kernel) (by decide +kernel) (clo_of (by decide +kernel)) (fun ad38 h38 => ?_)
  refine GW.sref (j := 9) (r := 309) dX9_init_43 cls_X9 (by decide) rfl rfl rfl flI_X9_27 rfl (Or.inr ⟨_, rfl⟩) (fun j' h => uq_200 (j := 9) h) ?_
  refine GW.aload_n (j := 0) dX9_init_46 rfl ?_
  refine GW.bipush dX9_init_47 (by decide) ?_
  refine GW.sarr (r := 310) (N := 10) dX9_init_49 rfl (Or.inr (Or.inl rfl)) ac_int rfl (by decide) (by decide) (by decide) rfl (fun j => rfl) (rf_none rfl (by decide)) (by decide +kernel) (by decide +kernel) (clo_of (by decide +kernel)) (fun ad46 h46 => ?_)
  refine GW.sref (j := 10) (r := 310) dX9_init_51 cls_X9 (by decide) rfl rfl rfl flI_X9_30 rfl (Or.inr ⟨_, rfl⟩) (fun j' h => uq_200 (j := 10) h) ?_
  refine GW.aload_n (j := 0) dX9_init_54 rfl ?_
  refine GW.bipush dX9_init_55 (by decide) ?_
  refine GW.sarr (r := 311) (N := 10) dX9_init_57 rfl (Or.inr (Or.inr rfl)) ac_boolean rfl (by decide) (by decide) (by decide) rfl (fun j => rfl) (rf_none rfl (by decide)) (by decide +kernel) (by decide +kernel) (clo_of (by decide +kernel)) (fun ad54 h54 => ?_)
  refine GW.sref (j := 11) (r := 311) dX9_init_59 cls_X9 (by decide) rfl rfl rfl flI_X9_33 rfl (Or.inr ⟨_, rfl⟩) (fun j' h => uq_200 (j := 11) h) ?_
  refine GW.aload_n (j := 0) dX9_init_62 rfl ?_
  refine GW.bipush dX9_init_63 (by decide) ?_
  refine GW.sarr (r := 312) (N := 10) dX9_init_65 rfl (Or.inr (Or.inl rfl)) ac_int rfl (by decide) (by decide) (by decide) rfl (fun j => rfl) (rf_none rfl (by decide)) (by decide +kernel) (by decide +kernel) (clo_of (by decide +kernel)) (fun ad62 h62 => ?_)
  refine GW.sref (j := 12) (r := 312) dX9_init_67 cls_X9 (by decide) rfl rfl rfl flI_X9_36 rfl (Or.inr ⟨_, rfl⟩) (fun j' h => uq_200 (j := 12) h) ?_
  refine GW.aload_n (j := 0) dX9_init_70 rfl ?_
  refine GW.bipush dX9_init_71 (by decide) ?_
  refine GW.sarr (r := 313) (N := 10) dX9_init_73 rfl (Or.inr (Or.inl rfl)) ac_int rfl (by decide) (by decide) (by decide) rfl (fun j => rfl) (rf_none rfl (by decide)) (by decide +kernel) (by decide +kernel) (clo_of (by decide +kernel)) (fun ad70 h70 => ?_)
  refine GW.sref (j := 13) (r := 313) dX9_init_75 cls_X9 (by decide) rfl rfl rfl flI_X9_39 rfl (Or.inr ⟨_, rfl⟩) (fun j' h => uq_200 (j := 13) h) ?_
  refine GW.aload_n (j := 0) dX9_init_78 rfl ?_
  refine GW.bipush dX9_init_79 (by decide) ?_
  refine GW.sarr (r := 314) (N := 80) dX9_init_81 rfl (Or.inr (Or.inl rfl)) ac_int rfl (by decide) (by decide) (by decide) rfl (fun j => rfl) (rf_none rfl (by decide)) (by decide +kernel) (by decide +kernel) (clo_of (by decide +kernel)) (fun ad78 h78 => ?_)
  refine GW.sref (j := 14) (r := 314) dX9_init_83 cls_X9 (by decide) rfl rfl rfl flI_X9_42 rfl (Or.inr ⟨_, rfl⟩) (fun j' h => uq_200 (j := 14) h) ?_
  refine GW.aload_n (j := 0) dX9_init_86 rfl ?_
  refine GW.iconst dX9_init_87 ?_
  refine GW.sarr (r := 316) (N := 4) dX9_init_88 rfl (Or.inr (Or.inl rfl)) ac_int rfl (by decide) (by decide) (by decide) rfl (fun j => rfl) (rf_none rfl (by decide)) (by decide +kernel) (by decide +kernel) (clo_of (by decide +kernel)) (fun ad86 h86 => ?_)
  refine GW.sref (j := 16) (r := 316) dX9_init_90 cls_X9 (by decide) rfl rfl rfl flI_X9_45 rfl (Or.inr ⟨_, rfl⟩) (fun j' h => uq_200 (j := 16) h) ?_
  refine GW.aload_n (j := 0) dX9_init_93 rfl ?_
  refine GW.iconst dX9_init_94 ?_
  refine GW.sarr (r := 317) (N := 4) dX9_init_95 rfl (Or.inr (Or.inl rfl)) ac_int rfl (by decide) (by decide) (by decide) rfl (fun j => rfl) (rf_none rfl (by decide)) (by decide +kernel) (by decide +kernel) (clo_of (by decide +kernel)) (fun ad93 h93 => ?_)
  refine GW.sref (j := 17) (r := 317) dX9_init_97 cls_X9 (by decide) rfl rfl rfl flI_X9_48 rfl (Or.inr ⟨_, rfl⟩) (fun j' h => uq_200 (j := 17) h) ?_
  refine GW.aload_n (j := 0) dX9_init_100 rfl ?_
  refine GW.bipush dX9_init_101 (by decide) ?_
  refine GW.sarr (r := 322) (N := 10) dX9_init_103 rfl (Or.inr (Or.inl rfl)) ac_int rfl (by decide) (by decide) (by decide) rfl (fun j => rfl) (rf_none rfl (by decide)) (by decide +kernel) (by decide +kernel) (clo_of (by decide +kernel)) (fun ad100 h100 => ?_)
  refine GW.sref (j := 22) (r := 322) dX9_init_105 cls_X9 (by decide) rfl rfl rfl flI_X9_51 rfl (Or.inr ⟨_, rfl⟩) (fun j' h => uq_200 (j := 22) h) ?_
  refine GW.aload_n (j := 0) dX9_init_108 rfl ?_
  refine GW.bipush dX9_init_109 (by decide) ?_
  refine GW.sarr (r := 323) (N := 10) dX9_init_111 rfl (Or.inr (Or.inr rfl)) ac_boolean rfl (by decide) (by decide) (by decide) rfl (fun j => rfl) (rf_none rfl (by decide)) (by decide +kernel) (by decide +kernel) (clo_of (by decide +kernel)) (fun ad108 h108 => ?_)
  refine GW.sref (j := 23) (r := 323) dX9_init_113 cls_X9 (by decide) rfl rfl rfl flI_X9_54 rfl (Or.inr ⟨_, rfl⟩) (fun j' h => uq_200 (j := 23) h) ?_
  refine GW.aload_n (j := 0) dX9_init_116 rfl ?_
  refine GW.bipush dX9_init_117 (by decide) ?_
  refine GW.sarr (r := 324) (N := 10) dX9_init_119 rfl (Or.inr (Or.inl rfl)) ac_int rfl (by decide) (by decide) (by decide) rfl (fun j => rfl) (rf_none rfl (by decide)) (by decide +kernel) (by decide +kernel) (clo_of (by decide +kernel)) (fun ad116 h116 => ?_)
  refine GW.sref (j := 24) (r := 324) dX9_init_121 cls_X9 (by decide) rfl rfl rfl flI_X9_57 rfl (Or.inr ⟨_, rfl⟩) (fun j' h => uq_200 (j := 24) h) ?_
  refine GW.aload_n (j := 0) dX9_init_124 rfl ?_
  refine GW.bipush dX9_init_125 (by decide) ?_
  refine GW.sarr (r := 325) (N := 10) dX9_init_127 rfl (Or.inr (Or.inl rfl)) ac_int rfl (by decide) (by decide) (by decide) rfl (fun j => rfl) (rf_none rfl (by decide)) (by decide +kernel) (by decide +kernel) (clo_of (by decide +kernel)) (fun ad124 h124 => ?_)
  refine GW.sref (j := 25) (r := 325) dX9_init_129 cls_X9 (by decide) rfl rfl rfl flI_X9_60 rfl (Or.inr ⟨_, rfl⟩) (fun j' h => uq_200 (j := 25) h) ?_
  refine GW.aload_n (j := 0) dX9_init_132 rfl ?_
  refine GW.bipush dX9_init_133 (by decide) ?_
  refine GW.sarr (r := 326) (N := 10) dX9_init_135 rfl (Or.inr (Or.inr rfl)) ac_boolean rfl (by decide) (by decide) (by decide) rfl (fun j => rfl) (rf_none rfl (by decide)) (by decide +kernel) (by decide +kernel) (clo_of (by decide +kernel)) (fun ad132 h132 => ?_)
  refine GW.sref (j := 26) (r := 326) dX9_init_137 cls_X9 (by decide) rfl rfl rfl flI_X9_63 rfl (Or.inr ⟨_, rfl⟩) (fun j' h => uq_200 (j := 26) h) ?_
  refine GW.aload_n (j := 0) dX9_init_140 rfl ?_
  refine GW.iconst dX9_init_141 ?_
  refine GW.sarr (r := 327) (N := 4) dX9_init_142 rfl (Or.inr (Or.inl rfl)) ac_int rfl (by decide) (by decide) (by decide) rfl (fun j => rfl) (rf_none rfl (by decide)) (by decide +kernel) (by decide +kernel) (clo_of (by decide +kernel)) (fun ad140 h140 => ?_)
  refine GW.sref (j := 27) (r := 327) dX9_init_144 cls_X9 (by decide) rfl rfl rfl flI_X9_66 rfl (Or.inr ⟨_, rfl⟩) (fun j' h => uq_200 (j := 27) h) ?_
  refine GW.aload_n (j := 0) dX9_init_147 rfl ?_
  refine GW.iconst dX9_init_148 ?_
  refine GW.sarr (r := 328) (N := 4) dX9_init_149 rfl (Or.inr (Or.inl rfl)) ac_int rfl (by decide) (by decide) (by decide) rfl (fun j => rfl) (rf_none rfl (by decide)) (by decide +kernel) (by decide +kernel) (clo_of (by decide +kernel)) (fun ad147 h147 => ?_)
  refine GW.sref (j := 28) (r := 328) dX9_init_151 cls_X9 (by decide) rfl rfl rfl flI_X9_69 rfl (Or.inr ⟨_, rfl⟩) (fun j' h => uq_200 (j := 28) h) ?_
  refine GW.aload_n (j := 0) dX9_init_154 rfl ?_
  refine GW.sipush dX9_init_155 (by decide) ?_
  refine GW.sarr (r := 329) (N := 968) dX9_init_158 rfl (Or.inr (Or.inl rfl)) ac_int rfl (by decide) (by decide) (by decide) rfl (fun j => rfl) (rf_none rfl (by decide)) (by decide +kernel) (by decide +kernel) (clo_of (by decide +kernel)) (fun ad154 h154 => ?_)
  refine GW.sref (j := 29) (r := 329) dX9_init_160 cls_X9 (by decide) rfl rfl rfl flI_X9_72 rfl (Or.inr ⟨_, rfl⟩) (fun j' h => uq_200 (j := 29) h) ?_
  refine GW.aload_n (j := 0) dX9_init_163 rfl ?_
  refine GW.bipush dX9_init_164 (by decide) ?_
  refine GW.sarr (r := 331) (N := 16) dX9_init_166 rfl (Or.inr (Or.inl rfl)) ac_int rfl (by decide) (by decide) (by decide) rfl (fun j => rfl) (rf_none rfl (by decide)) (by decide +kernel) (by decide +kernel) (clo_of (by decide +kernel)) (fun ad163 h163 => ?_)
  refine GW.sref (j := 31) (r := 331) dX9_init_168 cls_X9 (by decide) rfl rfl rfl flI_X9_75 rfl (Or.inr ⟨_, rfl⟩) (fun j' h => uq_200 (j := 31) h) ?_
  refine GW.aload_n (j := 0) dX9_init_171 rfl ?_
  refine GW.bipush dX9_init_172 (by decide) ?_
  refine GW.sarr (r := 332) (N := 16) dX9_init_174 rfl (Or.inr (Or.inl rfl)) ac_int rfl (by decide) (by decide) (by decide) rfl (fun j => rfl) (rf_none rfl (by decide)) (by decide +kernel) (by decide +kernel) (clo_of (by decide +kernel)) (fun ad171 h171 => ?_)
  refine GW.sref (j := 32) (r := 332) dX9_init_176 cls_X9 (by decide) rfl rfl rfl flI_X9_78 rfl (Or.inr ⟨_, rfl⟩) (fun j' h => uq_200 (j := 32) h) ?_
  refine GW.aload_n (j := 0) dX9_init_179 rfl ?_
  refine GW.sipush dX9_init_180 (by decide) ?_
  refine GW.sarr (r := 333) (N := 242) dX9_init_183 rfl (Or.inr (Or.inl rfl)) ac_int rfl (by decide) (by decide) (by decide) rfl (fun j => rfl) (rf_none rfl (by decide)) (by decide +kernel) (by decide +kernel) (clo_of (by decide +kernel)) (fun ad179 h179 => ?_)
  refine GW.sref (j := 33) (r := 333) dX9_init_185 cls_X9 (by decide) rfl rfl rfl flI_X9_81 rfl (Or.inr ⟨_, rfl⟩) (fun j' h => uq_200 (j := 33) h) ?_
  refine GW.aload_n (j := 0) dX9_init_188 rfl ?_
  refine GW.bipush dX9_init_189 (by decide) ?_
  refine GW.sarr (r := 334) (N := 60) dX9_init_191 rfl (Or.inr (Or.inl rfl)) ac_int rfl (by decide) (by decide) (by decide) rfl (fun j => rfl) (rf_none rfl (by decide)) (by decide +kernel) (by decide +kernel) (clo_of (by decide +kernel)) (fun ad188 h188 => ?_)
  refine GW.sref (j := 34) (r := 334) dX9_init_193 cls_X9 (by decide) rfl rfl rfl flI_X9_84 rfl (Or.inr ⟨_, rfl⟩) (fun j' h => uq_200 (j := 34) h) ?_
  refine GW.aload_n (j := 0) dX9_init_196 rfl ?_
  refine GW.sipush dX9_init_197 (by decide) ?_
  refine GW.sarr (r := 335) (N := 1936) dX9_init_200 rfl (Or.inr (Or.inl rfl)) ac_int rfl (by decide) (by decide) (by decide) rfl (fun j => rfl) (rf_none rfl (by decide)) (by decide +kernel) (by decide +kernel) (clo_of (by decide +kernel)) (fun ad196 h196 => ?_)
  refine GW.sref (j := 35) (r := 335) dX9_init_202 cls_X9 (by decide) rfl rfl rfl flI_X9_87 rfl (Or.inr ⟨_, rfl⟩) (fun j' h => uq_200 (j := 35) h) ?_
  refine GW.aload_n (j := 0) dX9_init_205 rfl ?_
  refine GW.bipush dX9_init_206 (by decide) ?_
  refine GW.sarr (r := 336) (N := 64) dX9_init_208 rfl (Or.inr (Or.inl rfl)) ac_int rfl (by decide) (by decide) (by decide) rfl (fun j => rfl) (rf_none rfl (by decide)) (by decide +kernel) (by decide +kernel) (clo_of (by decide +kernel)) (fun ad205 h205 => ?_)
  refine GW.sref (j := 36) (r := 336) dX9_init_210 cls_X9 (by decide) rfl rfl rfl flI_X9_90 rfl (Or.inr ⟨_, rfl⟩) (fun j' h => uq_200 (j := 36) h) ?_
  refine GW.aload_n (j := 0) dX9_init_213 rfl ?_
  refine GW.iconst dX9_init_214 ?_
  refine GW.sarr (r := 337) (N := 2) dX9_init_215 rfl (Or.inr (Or.inr rfl)) ac_boolean rfl (by decide) (by decide) (by decide) rfl (fun j => rfl) (rf_none rfl (by decide)) (by decide +kernel) (by decide +kernel) (clo_of (by decide +kernel)) (fun ad213 h213 => ?_)
  refine GW.sref (j := 37) (r := 337) dX9_init_217 cls_X9 (by decide) rfl rfl rfl flI_X9_93 rfl (Or.inr ⟨_, rfl⟩) (fun j' h => uq_200 (j := 37) h) ?_
  refine GW.aload_n (j := 0) dX9_init_220 rfl ?_
  refine GW.iconst dX9_init_221 ?_
  refine GW.sarr (r := 338) (N := 2) dX9_init_222 rfl (Or.inr (Or.inl rfl)) ac_int rfl (by decide) (by decide) (by decide) rfl (fun j => rfl) (rf_none rfl (by decide)) (by decide +kernel) (by decide +kernel) (clo_of (by decide +kernel)) (fun ad220 h220 => ?_)
  refine GW.sref (j := 38) (r := 338) dX9_init_224 cls_X9 (by decide) rfl rfl rfl flI_X9_96 rfl (Or.inr ⟨_, rfl⟩) (fun j' h => uq_200 (j := 38) h) ?_
  refine GW.aload_n (j := 0) dX9_init_227 rfl ?_
  refine GW.iconst dX9_init_228 ?_
  refine GW.sarr (r := 342) (N := 4) dX9_init_229 rfl (Or.inr (Or.inl rfl)) ac_int rfl (by decide) (by decide) (by decide) rfl (fun j => rfl) (rf_none rfl (by decide)) (by decide +kernel) (by decide +kernel) (clo_of (by decide +kernel)) (fun ad227 h227 => ?_)
  refine GW.sref (j := 42) (r := 342) dX9_init_231 cls_X9 (by decide) rfl rfl rfl flI_X9_99 rfl (Or.inr ⟨_, rfl⟩) (fun j' h => uq_200 (j := 42) h) ?_
  refine GW.aload_n (j := 0) dX9_init_234 rfl ?_
  refine GW.iconst dX9_init_235 ?_
  refine GW.sarr (r := 343) (N := 4) dX9_init_236 rfl (Or.inr (Or.inl rfl)) ac_int rfl (by decide) (by decide) (by decide) rfl (fun j => rfl) (rf_none rfl (by decide)) (by decide +kernel) (by decide +kernel) (clo_of (by decide +kernel)) (fun ad234 h234 => ?_)
  refine GW.sref (j := 43) (r := 343) dX9_init_238 cls_X9 (by decide) rfl rfl rfl flI_X9_102 rfl (Or.inr ⟨_, rfl⟩) (fun j' h => uq_200 (j := 43) h) ?_
  refine GW.aload_n (j := 0) dX9_init_241 rfl ?_
  refine GW.sipush dX9_init_242 (by decide) ?_
  refine GW.sarr (r := 347) (N := 1000) dX9_init_245 rfl (Or.inr (Or.inr rfl)) ac_boolean rfl (by decide) (by decide) (by decide) rfl (fun j => rfl) (rf_none rfl (by decide)) (by decide +kernel) (by decide +kernel) (clo_of (by decide +kernel)) (fun ad241 h241 => ?_)
  refine GW.sref (j := 47) (r := 347) dX9_init_247 cls_X9 (by decide) rfl rfl rfl flI_X9_105 rfl (Or.inr ⟨_, rfl⟩) (fun j' h => uq_200 (j := 47) h) ?_
  refine GW.iconst dX9_init_250 ?_
  refine GW.istore_n (j := 1) (loc' := [(1, .int (Int32.ofInt ((0 : Nat) : Int))), (0, .ref q)]) dX9_init_251 rfl (by decide) rfl ?_
  have go : ∀ i : Nat, i ≤ 16 → ∀ ad0 : Nat → Nat, GW D cA mX9_init 30 4602 252 [(1, .int (Int32.ofInt (i : Int))), (0, .ref q)] [] ([] ++ gs cA ad0 (Mj i) q 200 9 S9 L9) 30 4602 (PK cA (200 :: L9) 200 q) := by
    refine up_loop (n := 16) ?_ ?_
    · intro ad0
      refine GW.iload_n (j := 0) dX9_init_252 rfl ?_
      refine GW.bipush dX9_init_253 (by decide) ?_
      refine GW.icmp_ge (tgt := 278) dX9_init_255 (by decide) (by decide) (by decide) (fun _ => ?_) (fun h => absurd h (by decide))
      refine GW.sdone dX9_init_278 (Nat.le_refl _) (Nat.le_refl _) f200 rfl (no_of (by decide +kernel)) (fun j r hr => n200 hr) (fun x _ => congrFun Mj_16 x)
    · intro i hi ih ad0
      refine GW.iload_n (j := 0) dX9_init_252 rfl ?_
      refine GW.bipush dX9_init_253 (by decide) ?_
      refine GW.icmp_ge (tgt := 278) dX9_init_255 (by decide) (by omega) (by omega) (fun h => by omega) (fun _ => ?_)
      refine GW.aload_n (j := 1) dX9_init_258 rfl ?_
      refine GW.sget (j := 31) (r := 331) dX9_init_259 cls_X9 (by decide) rfl flI_X9_75 rfl (Or.inr ⟨_, rfl⟩) (by decide) ?_
      refine GW.iload_n (j := 0) dX9_init_262 rfl ?_
      refine GW.iconst dX9_init_263 ?_
      refine GW.siast (i := 19) (r := 331) (N := 16) dX9_init_264 rfl (by decide +kernel) (by decide) rfl ⟨by omega, by omega⟩ (by decide) ?_
      refine GW.aload_n (j := 1) dX9_init_265 rfl ?_
      refine GW.sget (j := 32) (r := 332) dX9_init_266 cls_X9 (by decide) rfl flI_X9_78 rfl (Or.inr ⟨_, rfl⟩) (by decide) ?_
      refine GW.iload_n (j := 0) dX9_init_269 rfl ?_
      refine GW.iconst dX9_init_270 ?_
      refine GW.siast (i := 20) (r := 332) (N := 16) dX9_init_271 rfl (by decide +kernel) (by decide) rfl ⟨by omega, by omega⟩ (by decide) ?_
      refine GW.iinc (j := 0) dX9_init_272 rfl (by decide) rfl ?_
      refine GW.goto (tgt := 252) dX9_init_275 (by decide) ?_
      rw [show ((i : Int)).toNat = i by omega, Mj_S, cast1]
      exact ih ad0
  exact go 0 (Nat.zero_le _) _
end RW
