/-! ===== the small constructors ===== -/
theorem rfs_b {o j r : Nat} (ho : o ≠ 200) (h : rfs o j = some r) : j < 12 := by
  unfold rfs at h
  split at h
  · split at h
    · omega
    · cases h
  · unfold rfT at h
    split at h <;> first | omega | (cases h; done) | (split at h <;> first | omega | (cases h; done))
theorem uq_of {o j r : Nat} (ho : o ≠ 200) (hb : ∀ i, i < 12 → rfs o i = some r → i = j) : ∀ i, rfs o i = some r → i = j := fun i hi => hb i (rfs_b ho hi) hi
def clB (L : List Nat) : Bool := L.all (fun o => decide (o ≠ 200) && (List.range 12).all (fun j => match rfs o j with
  | none => true
  | some r => decide (r ∈ L)))
theorem clo_of {L : List Nat} (h : clB L = true) : clo L := by
  intro o ho j r hr
  have h1 := List.all_eq_true.mp h o ho
  simp only [Bool.and_eq_true, decide_eq_true_eq] at h1
  have h2 := List.all_eq_true.mp h1.2 j (List.mem_range.mpr (rfs_b h1.1 hr))
  rw [hr] at h2
  simpa using h2
theorem clo_nil : clo [] := fun o ho => absurd ho List.not_mem_nil
/-- no reference out of L leads to o -/
def noB (L : List Nat) (o : Nat) : Bool := L.all (fun x => decide (x ≠ 200) && decide (x ≠ o) && (List.range 12).all (fun j => match rfs x j with
  | none => true
  | some r => decide (r ≠ o)))
theorem no_of {L : List Nat} {o : Nat} (h : noB L o = true) : ∀ x ∈ L, x ≠ o ∧ ∀ j r, rfs x j = some r → r ≠ o := by
  intro x hx
  have h1 := List.all_eq_true.mp h x hx
  simp only [Bool.and_eq_true, decide_eq_true_eq] at h1
  refine ⟨h1.1.2, fun j r hr => ?_⟩
  have h2 := List.all_eq_true.mp h1.2 j (List.mem_range.mpr (rfs_b h1.1.1 hr))
  rw [hr] at h2
  simpa using h2
theorem fl_of {o ci : Nat} {S : List Nat} (ho : o ≠ 200) (h : (List.range 12).all (fun j => match rfs o j with
  | none => true
  | some r => decide (r ∈ S) && decide (r ≠ o)) = true) : (∀ j r, j < nFd ci → rfs o j = some r → r ∈ S ∨ plainT (ftC ci j) = true) ∧ ∀ j r, rfs o j = some r → r ≠ o := by
  have key : ∀ j r, rfs o j = some r → r ∈ S ∧ r ≠ o := by
    intro j r hr
    have h2 := List.all_eq_true.mp h j (List.mem_range.mpr (rfs_b ho hr))
    rw [hr] at h2
    simpa using h2
  exact ⟨fun j r _ hr => Or.inl (key j r hr).1, fun j r hr => (key j r hr).2⟩
theorem M0_big {o : Nat} (h : 100 ≤ o ∧ o < 154) : M0 o = fun _ => 0 := by
  unfold M0
  split <;> first | omega | rfl
theorem rf_none {o : Nat} (h : rfT o = fun _ => none) (h2 : ¬ (100 ≤ o ∧ o < 154)) : ∀ j, rfs o j = none := by
  intro j
  unfold rfs
  rw [if_neg h2, h]
theorem rf_oCn {t : Nat} (ht : t < 27) : ∀ j, rfs (oC t) j = none := by
  intro j
  unfold rfs oC
  rw [if_pos (by omega), if_neg (by omega)]
theorem rf_oTu {t j r : Nat} (ht : t < 27) (h : rfs (oT t) j = some r) : j = 0 ∧ r = oC t := by
  unfold rfs oT at h
  rw [if_pos (by omega)] at h
  split at h
  · cases h
    exact ⟨by omega, by unfold oC; omega⟩
  · cases h
theorem in_i0 : inT .int 0 := ⟨by decide, by decide⟩
theorem in_i1 : inT .int 1 := ⟨by decide, by decide⟩
theorem in_z0 : inT .boolean 0 := ⟨by decide, by decide⟩
theorem in_l0 : inT .long 0 := ⟨by decide, by decide⟩
theorem in_l1 : inT .long 1 := ⟨by decide, by decide⟩
section LV
variable {D : va_G} {cA : FieldType → ClassId}
theorem gi_X6 {t : Nat} (ht : t < 27) : GI D cA mX6_init 1 150 6 (PK cA [oT t, oC t] (oT t)) := by
  have hz : ∀ j, M0 (oT t) j = 0 := fun j => by rw [M0_big (by unfold oT; omega)]
  have hzc : ∀ j, M0 (oC t) j = 0 := fun j => by rw [M0_big (by unfold oC; omega)]
  refine GW.start (ci := 6) (oT t) M0 (by decide) hz (fun ad q => ?_)
  refine GW.aload_n (j := 0) dX6_init_0 rfl ?_
  refine GW.obj dX6_init_1 obj_X6 obj_I obj_C (by decide) (by decide) ?_
  refine GW.aload_n (j := 0) dX6_init_4 rfl ?_
  refine GW.sipush dX6_init_5 (by decide) ?_
  refine GW.sarr (r := oC t) (N := 150) dX6_init_8 rfl (Or.inr (Or.inl rfl)) ac_int rfl (by decide) (by decide) (by decide) (kd_oC ht) hzc (rf_oCn ht) (by simp) (by simp) clo_nil (fun ad1 _ => ?_)
  refine GW.sref (j := 0) dX6_init_10 cls_X6 (by decide) rfl rfl rfl flI_X6_11 (rf_oC ht) (Or.inr ⟨_, rfl⟩) (fun j' h => (rf_oTu ht h).1) ?_
  refine GW.aload_n (j := 0) dX6_init_13 rfl ?_
  refine GW.iconst dX6_init_14 ?_
  refine GW.sval0 (j := 1) dX6_init_15 cls_X6 (by decide) rfl rfl rfl flI_X6_15 rfl (by rw [hz]; exact in_i0) (by rw [hz]; rfl) (by unfold oT oC; simp) ?_
  refine GW.sdone dX6_init_18 (by decide) (by decide) (fun j r _ h => Or.inl (by rw [(rf_oTu ht h).2]; simp)) (kd_oT ht) (fun x hx => ?_) (fun j r h => by rw [(rf_oTu ht h).2]; unfold oC oT; omega) (fun _ _ => rfl)
  have : x = oC t := by simpa using hx
  subst this
  exact ⟨by unfold oC oT; omega, fun j r h => by rw [rf_oCn ht] at h; cases h⟩
theorem gi_X7 : GI D cA mX7_init 1 72 7 (PK cA [1, 2] 1) := by
  refine GW.start (ci := 7) 1 M0 (by decide) (fun j => rfl) (fun ad q => ?_)
  refine GW.aload_n (j := 0) dX7_init_0 rfl ?_
  refine GW.obj dX7_init_1 obj_X7 obj_I obj_C (by decide) (by decide) ?_
  refine GW.aload_n (j := 0) dX7_init_4 rfl ?_
  refine GW.bipush dX7_init_5 (by decide) ?_
  refine GW.sarr (r := 2) (N := 72) dX7_init_7 rfl (Or.inl rfl) ac_byte rfl (by decide) (by decide) (by decide) rfl (fun j => rfl) (rf_none rfl (by decide)) (by decide) (by decide) clo_nil (fun ad1 _ => ?_)
  refine GW.sref (j := 0) dX7_init_9 cls_X7 (by decide) rfl rfl rfl flI_X7_9 rfl (Or.inr ⟨_, rfl⟩) (uq_of (by decide) (by decide)) ?_
  refine GW.aload_n (j := 0) dX7_init_12 rfl ?_
  refine GW.iconst dX7_init_13 ?_
  refine GW.sval0 (j := 1) dX7_init_14 cls_X7 (by decide) rfl rfl rfl flI_X7_15 rfl in_i0 rfl (by decide) ?_
  have hf := fl_of (o := 1) (ci := 7) (S := [2]) (by decide) (by decide +kernel)
  exact GW.sdone dX7_init_17 (by decide) (by decide) hf.1 rfl (no_of (by decide +kernel)) hf.2 (fun _ _ => rfl)
theorem gi_X1 : GI D cA mX1_init 2 8 1 (PK cA [3, 4, 5] 3) := by
  refine GW.start (ci := 1) 3 M0 (by decide) (fun j => rfl) (fun ad q => ?_)
  refine GW.aload_n (j := 0) dX1_init_0 rfl ?_
  refine GW.obj dX1_init_1 obj_X1 obj_I obj_C (by decide) (by decide) ?_
  refine GW.aload_n (j := 0) dX1_init_4 rfl ?_
  refine GW.iconst dX1_init_5 ?_
  refine GW.sarr (r := 4) (N := 4) dX1_init_6 rfl (Or.inr (Or.inl rfl)) ac_int rfl (by decide) (by decide) (by decide) rfl (fun j => rfl) (rf_none rfl (by decide)) (by decide) (by decide) clo_nil (fun ad1 _ => ?_)
  refine GW.sref (j := 0) dX1_init_8 cls_X1 (by decide) rfl rfl rfl flI_X1_9 rfl (Or.inr ⟨_, rfl⟩) (uq_of (by decide) (by decide)) ?_
  refine GW.aload_n (j := 0) dX1_init_11 rfl ?_
  refine GW.iconst dX1_init_12 ?_
  refine GW.sarr (r := 5) (N := 4) dX1_init_13 rfl (Or.inr (Or.inl rfl)) ac_int rfl (by decide) (by decide) (by decide) rfl (fun j => rfl) (rf_none rfl (by decide)) (by decide) (by decide) (clo_of (by decide +kernel)) (fun ad2 _ => ?_)
  refine GW.sref (j := 1) dX1_init_15 cls_X1 (by decide) rfl rfl rfl flI_X1_15 rfl (Or.inr ⟨_, rfl⟩) (uq_of (by decide) (by decide)) ?_
  refine GW.aload_n (j := 0) dX1_init_18 rfl ?_
  refine GW.iconst dX1_init_19 ?_
  refine GW.sval0 (j := 2) dX1_init_20 cls_X1 (by decide) rfl rfl rfl flI_X1_18 rfl in_i0 rfl (by decide) ?_
  have hf := fl_of (o := 3) (ci := 1) (S := [5, 4]) (by decide) (by decide +kernel)
  exact GW.sdone dX1_init_23 (by decide) (by decide) hf.1 rfl (no_of (by decide +kernel)) hf.2 (fun _ _ => rfl)
theorem gi_X2 : GI D cA mX2_init 0 0 2 (PK cA [33] 33) := by
  refine GW.start (ci := 2) 33 M0 (by decide) (fun j => rfl) (fun ad q => ?_)
  refine GW.aload_n (j := 0) dX2_init_0 rfl ?_
  refine GW.obj dX2_init_1 obj_X2 obj_I obj_C (by decide) (by decide) ?_
  refine GW.aload_n (j := 0) dX2_init_4 rfl ?_
  refine GW.iconst dX2_init_5 ?_
  refine GW.sval0 (j := 0) dX2_init_6 cls_X2 (by decide) rfl rfl rfl flI_X2_7 rfl in_z0 rfl (by decide) ?_
  refine GW.aload_n (j := 0) dX2_init_9 rfl ?_
  refine GW.iconst dX2_init_10 ?_
  refine GW.sval0 (j := 1) dX2_init_11 cls_X2 (by decide) rfl rfl rfl flI_X2_13 rfl in_i0 rfl (by decide) ?_
  refine GW.aload_n (j := 0) dX2_init_14 rfl ?_
  refine GW.iconst dX2_init_15 ?_
  refine GW.sval0 (j := 2) dX2_init_16 cls_X2 (by decide) rfl rfl rfl flI_X2_17 rfl in_i0 rfl (by decide) ?_
  refine GW.aload_n (j := 0) dX2_init_19 rfl ?_
  refine GW.iconst dX2_init_20 ?_
  refine GW.sval0 (j := 3) dX2_init_21 cls_X2 (by decide) rfl rfl rfl flI_X2_20 rfl in_i0 rfl (by decide) ?_
  have hf := fl_of (o := 33) (ci := 2) (S := []) (by decide) (by decide +kernel)
  exact GW.sdone dX2_init_24 (by decide) (by decide) hf.1 rfl (no_of (by decide +kernel)) hf.2 (fun _ _ => rfl)
theorem gi_X4 : GI D cA mX4_init 0 0 4 (PK cA [34] 34) := by
  refine GW.start (ci := 4) 34 (fun _ _ => 0) (by decide) (fun j => rfl) (fun ad q => ?_)
  refine GW.aload_n (j := 0) dX4_init_0 rfl ?_
  refine GW.obj dX4_init_1 obj_X4 obj_I obj_C (by decide) (by decide) ?_
  refine GW.aload_n (j := 0) dX4_init_4 rfl ?_
  refine GW.iconst dX4_init_5 ?_
  refine GW.sval0 (j := 0) dX4_init_6 cls_X4 (by decide) rfl rfl rfl flI_X4_7 rfl in_i0 rfl (by decide) ?_
  refine GW.aload_n (j := 0) dX4_init_9 rfl ?_
  refine GW.iconst dX4_init_10 ?_
  refine GW.sval0 (j := 1) dX4_init_11 cls_X4 (by decide) rfl rfl rfl flI_X4_13 rfl in_i0 rfl (by decide) ?_
  refine GW.aload_n (j := 0) dX4_init_14 rfl ?_
  refine GW.lconst (z := 0) dX4_init_15 rfl ?_
  refine GW.sval0 (j := 2) dX4_init_16 cls_X4 (by decide) rfl rfl rfl flI_X4_16 rfl in_l0 rfl (by decide) ?_
  refine GW.aload_n (j := 0) dX4_init_19 rfl ?_
  refine GW.lconst (z := 1) dX4_init_20 rfl ?_
  refine GW.sval (j := 3) (z := 1) dX4_init_21 cls_X4 (by decide) rfl rfl rfl flI_X4_20 rfl in_l1 rfl (by decide) ?_
  have hf := fl_of (o := 34) (ci := 4) (S := []) (by decide) (by decide +kernel)
  refine GW.sdone dX4_init_24 (by decide) (by decide) hf.1 rfl (no_of (by decide +kernel)) hf.2 (fun x hx => ?_)
  have : x = 34 := by simpa using hx
  subst this
  funext j
  unfold M0 up2
  simp
end LV
