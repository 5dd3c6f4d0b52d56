/-! ===== Rates, Bargains, Slot made ===== -/
def sf (x : Nat) (ad : Nat → Nat) (i : Nat) : Nat → Option Nat := fun j => if j < i then (rfs x j).map ad else none
def ex (cA : FieldType → ClassId) (ad : Nat → Nat) (x : Nat) (cn : String) (N i : Nat) : va_W := [(ad x, .inl (cA (.object cn), N, .inr (.inr (.inr (.inr (sf x ad i))))))]
theorem sf_up {x i r : Nat} {ad ad' : Nat → Nat} {L1 : List Nat} (hr : rfs x i = some r) (ha : ∀ z, z ∉ L1 → ad' z = ad z) (hs : ∀ j r', j < i → rfs x j = some r' → r' ∉ L1) : va_up (sf x ad i) i (some (ad' r)) = sf x ad' (i + 1) := by
  funext j
  unfold va_up sf
  by_cases hj : j = i
  · subst hj
    rw [if_pos rfl, if_pos (by omega), hr]
    rfl
  · rw [if_neg hj]
    by_cases h2 : j < i
    · rw [if_pos h2, if_pos (by omega)]
      cases hq : rfs x j with
      | none => rfl
      | some r' => rw [Option.map_some, Option.map_some, ha r' (hs j r' h2 hq)]
    · rw [if_neg h2, if_neg (by omega)]
theorem perm3 {α : Type} (a b c : α) : [a, b, c].Perm [a, c, b] := List.Perm.cons _ (List.Perm.swap _ _ _)
section RT
variable {D : va_G} {cA : FieldType → ClassId} {m : MR} {mc ms pc k n : Nat} {loc loc' : List (Nat × Value)} {st : List Value} {ws E : va_W} {P : va_W → Prop} {ad : Nat → Nat} {M : Mem} {h o ci : Nat} {S L : List Nat}
theorem GW.snew {cn : String} {index N x : Nat} {z : Int} (hd : decode m.2.1 pc = .ok (.anewarray index, 3)) (hcn : cn = "TeethForCoins$Slot" ∨ cn = "TeethForCoins$Teeth") (hw : Cond.classLink m.1.cls index cn ∈ TB) (hz : z = (N : Int)) (hN : N < 10000) (hk : k + 1 ≤ mc) (hn : n + N ≤ ms) (hS : x ∉ S) (hL : x ∉ L) (hcl : clo L) (kk : ∀ ad' : Nat → Nat, (∀ y, y ≠ x → ad' y = ad y) → GW D cA m mc ms (pc + 3) loc (.ref (ad' x) :: st) (ex cA ad' x cn N 0 ++ gs cA ad' M h o ci S L) (k + 1) (n + N) P) : GW D cA m mc ms pc loc (.int (Int32.ofInt z) :: st) ([] ++ gs cA ad M h o ci S L) k n P := by
  refine GW.newq hd hcn hw hz hN hk hn (fun q => ?_)
  have hg : gs cA (fun y => if y = x then q else ad y) M h o ci S L = gs cA ad M h o ci S L := by
    unfold gs
    rw [fdP_cg (ad' := fun y => if y = x then q else ad y) (ad := ad) (S' := S) (S := S) (M' := M) (M := M) (fun j r _ => ⟨Iff.rfl, fun hr => if_neg (fun (e : r = x) => hS (e ▸ hr))⟩) rfl, pk_cg (ad' := fun y => if y = x then q else ad y) (ad := ad) (M' := M) (M := M) (L := L) (fun y hy => ⟨if_neg (fun (e : y = x) => hL (e ▸ hy)), rfl, fun j r hr => if_neg (fun (e : r = x) => hL (e ▸ hcl y hy j r hr))⟩)]
  have := kk (fun y => if y = x then q else ad y) (fun y hy => if_neg hy)
  simp only [if_true] at this
  rw [hg] at this
  have hx : ex cA (fun y => if y = x then q else ad y) x cn N 0 = [(q, .inl (cA (.object cn), N, .inr (.inr (.inr (.inr (fun _ => none))))))] := by
    unfold ex
    have hs0 : sf x (fun y => if y = x then q else ad y) 0 = fun _ => none := by
      funext j
      unfold sf
      rw [if_neg (Nat.not_lt_zero j)]
    rw [hs0]
    simp only [if_true]
  rw [hx] at this
  exact GW.perm List.perm_append_comm this
theorem GW.siter {y : MR} {C cn : String} {T T1 : u_T} {N Nf N1 ci1 i1 i2 gi off mcy msy r x i j t0 : Nat} {L1 : List Nat} {b : Nat}
    (d0 : decode m.2.1 b = .ok (.iload_n 1, 1)) (d1 : decode m.2.1 (b + 1) = .ok (.aload_n 0, 1)) (d2 : decode m.2.1 (b + 2) = .ok (.getfield gi, 3)) (d5 : decode m.2.1 (b + 5) = .ok (.arraylength, 1)) (d6 : decode m.2.1 (b + 6) = .ok (.if_icmp .ge (off : Int), 3)) (d9 : decode m.2.1 (b + 9) = .ok (.aload_n 0, 1)) (d10 : decode m.2.1 (b + 10) = .ok (.getfield gi, 3)) (d13 : decode m.2.1 (b + 13) = .ok (.iload_n 1, 1)) (d14 : decode m.2.1 (b + 14) = .ok (.new i1, 3)) (d17 : decode m.2.1 (b + 17) = .ok (.dup, 1)) (d18 : decode m.2.1 (b + 18) = .ok (.invokespecial i2, 3)) (d21 : decode m.2.1 (b + 21) = .ok (.aastore, 1)) (d22 : decode m.2.1 (b + 22) = .ok (.iinc 1 1, 3)) (d25 : decode m.2.1 (b + 25) = .ok (.goto (-25), 3))
    (hcf : clsOK ci C T Nf) (hj : j < Nf) (hT : (T j).1 = C) (hlf : Cond.fieldLink m.1.cls gi C (T j).2.1 (T j).2.2.1 ∈ TB) (hrx : rfs o j = some x) (htx : (∃ t, ftC ci j = .object t) ∨ ∃ t, ftC ci j = .array t) (hxS : x ∈ S)
    (hcn : cn = "TeethForCoins$Slot" ∨ cn = "TeethForCoins$Teeth") (ht : (tysO cA)[t0]? = some (cA (.object cn), .object cn)) (hc : clsOK ci1 cn T1 N1) (hkr : kd r = some (.inl ci1)) (hy : okC y 0) (hyc : y.1.cls = cn) (hyn : y.1.name = "<init>") (hyr : y.2.2.2.1 = none) (hyl : 1 ≤ y.2.2.1) (hcl : Cond.classLink m.1.cls i1 cn ∈ TB) (hinst : Cond.instantiable cn N1 ∈ TB) (him : Cond.instanceMethod y.1 ∈ TB) (hl : ML m.1.cls i2 y.1) (hrm : okRm m y) (hm2 : 1 < m.2.2.1) (hk : k + 1 + mcy ≤ mc) (hn : n + N1 + msy ≤ ms) (hG : GI D cA y mcy msy ci1 (PK cA L1 r)) (hr : r ∈ L1) (hM : ∀ z, z ∈ L1 → M0 z = M z) (hS : ∀ z ∈ S, z ∉ L1) (hL : ∀ z ∈ L, z ∉ L1) (hcl0 : clo L) (hcl1 : clo L1) (hi : i < N) (hN : N < 10000) (hri : rfs x i = some r) (hsf : ∀ j r', j < i → rfs x j = some r' → r' ∉ L1)
    (kk : ∀ ad' : Nat → Nat, (∀ z, z ∉ L1 → ad' z = ad z) → GW D cA m mc ms b [(1, .int (Int32.ofInt ((i + 1 : Nat) : Int))), (0, .ref h)] [] (ex cA ad' x cn N (i + 1) ++ gs cA ad' M h o ci S (L ++ L1)) (k + 1 + mcy) (n + N1 + msy) P) :
    GW D cA m mc ms b [(1, .int (Int32.ofInt (i : Int))), (0, .ref h)] [] (ex cA ad x cn N i ++ gs cA ad M h o ci S L) k n P := by
  have hty5 : (FieldType.object cn) = .byte ∨ (FieldType.object cn) = .int ∨ (FieldType.object cn) = .boolean ∨ (FieldType.object cn) = tyS ∨ (FieldType.object cn) = tyT := by rcases hcn with h | h <;> simp [h]
  refine GW.iload_n (j := 0) d0 rfl ?_
  refine GW.aload_n (j := 1) d1 rfl ?_
  refine GW.sget d2 hcf hj hT hlf hrx htx hxS ?_
  refine GW.alenN (i := 0) (N := N) d5 hty5 rfl rfl ?_
  refine GW.icmp_ge (tgt := b + 6 + off) d6 (by omega) (by omega) (by omega) (fun q => by omega) (fun _ => ?_)
  refine GW.aload_n (j := 1) d9 rfl ?_
  refine GW.sget d10 hcf hj hT hlf hrx htx hxS ?_
  refine GW.iload_n (j := 0) d13 rfl ?_
  refine GW.smk d14 d17 d18 hc hy hyc hyn hyr hyl hcl hinst him hl hrm (by show 1 + (1 + 0) ≤ 6; omega) hk hn hG hr hM hS hL hcl0 hcl1 (fun ad' ha => ?_)
  have hmem : ((ad' r, .inr (ci1, fdV ad' M r ci1)) : Nat × va_E) ∈ ex cA ad x cn N i ++ gs cA ad' M h o ci S (L ++ L1) := by
    refine List.mem_append_right _ (List.mem_cons_of_mem _ (List.mem_map.mpr ⟨r, List.mem_append_right _ hr, ?_⟩))
    rw [ent_o hkr]
  obtain ⟨qk, hqk⟩ := List.getElem?_of_mem hmem
  refine GW.astq (i := 0) (r := (cn, T1, N1)) (N := N) d21 rfl ht hqk hc.1 ⟨by omega, by omega⟩ hN rfl ?_
  refine GW.iinc (j := 0) d22 rfl hm2 rfl ?_
  refine GW.goto (tgt := b) d25 (by omega) ?_
  have hx1 : x ∉ L1 := hS x hxS
  have he : (ex cA ad x cn N i ++ gs cA ad' M h o ci S (L ++ L1)).set 0 (ad x, .inl (cA (.object cn), N, .inr (.inr (.inr (.inr (va_up (sf x ad i) ((i : Int)).toNat (some (ad' r)))))))) = ex cA ad' x cn N (i + 1) ++ gs cA ad' M h o ci S (L ++ L1) := by
    rw [show ((i : Int)).toNat = i by omega, sf_up hri ha hsf]
    unfold ex
    rw [ha x hx1]
    rfl
  have k2 := kk ad' ha
  rw [← cast1, ← he] at k2
  exact k2
theorem ex_pk {x N : Nat} {cn : String} (hk : kd x = some (.inr (.object cn, N))) (hN : ∀ j r, rfs x j = some r → j < N) : ex cA ad x cn N N = pk cA ad M [x] := by
  show _ = [(ad x, ent cA ad M x)]
  unfold ex
  rw [ent_a hk]
  have e : sf x ad N = fun j => (rfs x j).map ad := by
    funext j
    unfold sf
    by_cases hj : j < N
    · rw [if_pos hj]
    · rw [if_neg hj]
      cases hq : rfs x j with
      | none => rfl
      | some r => exact absurd (hN j r hq) hj
  rw [e]
  rfl
theorem GW.xdone {x N : Nat} {cn : String} (hd : decode m.2.1 pc = .ok (.return_, 1)) (hk : k ≤ mc) (hn : n ≤ ms) (hkx : kd x = some (.inr (.object cn, N))) (hN : ∀ j r, rfs x j = some r → j < N) (hf : ∀ j r, j < nFd ci → rfs o j = some r → r ∈ S ∨ plainT (ftC ci j) = true) (hkd : kd o = some (.inl ci)) (hLo : ∀ z ∈ x :: L, z ≠ o ∧ ∀ j r, rfs z j = some r → r ≠ o) (hoo : ∀ j r, rfs o j = some r → r ≠ o) (hM : ∀ z ∈ o :: L, M0 z = M z) : GW D cA m mc ms pc loc [] (ex cA ad x cn N N ++ gs cA ad M h o ci S L) k n (PK cA (x :: o :: L) o h) := by
  refine GW.done hd hk hn ?_
  obtain ⟨ad', h1, h2, h3⟩ := gs_fin (cA := cA) (ad := ad) (h := h) hf hkd (fun z hz => hLo z (List.mem_cons_of_mem _ hz)) hoo hM
  refine ⟨ad', h1, ?_⟩
  rw [h3, ex_pk (M := M0) hkx hN, pk_cg (ad' := ad) (ad := ad') (M' := M0) (M := M0) (L := [x]) (fun z hz => by
    have : z = x := by simpa using hz
    subst this
    exact ⟨(h2 z (hLo z List.mem_cons_self).1).symm, rfl, fun j r hr => (h2 r ((hLo z List.mem_cons_self).2 j r hr)).symm⟩)]
  rfl
theorem hN_of {x N : Nat} (hx : x ≠ 200) (h : ∀ j, j < 12 → (rfs x j).isSome = true → j < N) : ∀ j r, rfs x j = some r → j < N := fun j r hr => h j (rfs_b hx hr) (by rw [hr]; rfl)
end RT
section RX
variable {D : va_G} {cA : FieldType → ClassId}
theorem gi_X3_0 : GI D cA mX3_init 2 32 3 (PK cA [10, 11, 12] 10) := by
  refine GW.start (ci := 3) 10 (fun _ _ => 0) (by decide) (fun j => rfl) (fun ad q => ?_)
  refine GW.aload_n (j := 0) dX3_init_0 rfl ?_
  refine GW.obj dX3_init_1 obj_X3 obj_I obj_C (by decide) (by decide) ?_
  refine GW.aload_n (j := 0) dX3_init_4 rfl ?_
  refine GW.bipush dX3_init_5 (by decide) ?_
  refine GW.sarr (r := 11) (N := 16) dX3_init_7 rfl (Or.inr (Or.inl rfl)) ac_int rfl (by decide) (by decide) (by decide) rfl (fun j => rfl) (rf_none rfl (by decide)) (by decide) (by decide) clo_nil (fun ad1 _ => ?_)
  refine GW.sref (j := 0) dX3_init_9 cls_X3 (by decide) rfl rfl rfl flI_X3_9 rfl (Or.inr ⟨_, rfl⟩) (uq_of (by decide) (by decide)) ?_
  refine GW.aload_n (j := 0) dX3_init_12 rfl ?_
  refine GW.bipush dX3_init_13 (by decide) ?_
  refine GW.sarr (r := 12) (N := 16) dX3_init_15 rfl (Or.inr (Or.inl rfl)) ac_int rfl (by decide) (by decide) (by decide) rfl (fun j => rfl) (rf_none rfl (by decide)) (by decide) (by decide) (clo_of (by decide +kernel)) (fun ad2 _ => ?_)
  refine GW.sref (j := 1) dX3_init_17 cls_X3 (by decide) rfl rfl rfl flI_X3_15 rfl (Or.inr ⟨_, rfl⟩) (uq_of (by decide) (by decide)) ?_
  refine GW.aload_n (j := 0) dX3_init_20 rfl ?_
  refine GW.sget (j := 0) (r := 11) dX3_init_21 cls_X3 (by decide) rfl flI_X3_9 rfl (Or.inr ⟨_, rfl⟩) (by decide) ?_
  refine GW.iconst dX3_init_24 ?_
  have hz : (fun _ => Int32.ofInt 0 : Nat → Int32) = fun _ => 0 := funext (fun _ => rfl)
  have ez : [] ++ gs cA ad2 (fun _ _ => 0) q 10 3 [12, 11] ([] ++ [11] ++ [12]) = [(q, .inr (3, fdP ad2 (fun _ _ => 0) 10 3 [12, 11])), (ad2 11, .inl (cA .int, 16, .inl (fun _ => 0))), (ad2 12, .inl (cA .int, 16, .inl (fun _ => 0)))] := by
    show [(q, _), (ad2 11, ent cA ad2 (fun _ _ => 0) 11), (ad2 12, ent cA ad2 (fun _ _ => 0) 12)] = _
    have e3 : arP ad2 (fun _ _ => 0) 11 .int = .inl (fun _ => 0) := congrArg Sum.inl hz
    have e4 : arP ad2 (fun _ _ => 0) 12 .int = .inl (fun _ => 0) := congrArg Sum.inl hz
    rw [ent_a (o := 11) (ty := .int) (n := 16) rfl, ent_a (o := 12) (ty := .int) (n := 16) rfl, e3, e4]
  rw [ez]
  refine GW.perm (perm3 _ _ _) ?_
  show GW D cA mX3_init 2 32 _ _ _ ([(q, .inr (3, fdP ad2 (fun _ _ => 0) 10 3 [12, 11])), (ad2 12, .inl (cA .int, 16, .inl (fun _ => 0)))] ++ [(ad2 11, .inl (cA .int, 16, .inl (fun _ => 0)))]) _ _ _
  refine GW.callS (vs := [.ref (ad2 11), .int 1]) (nP := 2) (mcy := 0) (msy := 0) (st := []) dX3_init_25 oc_J7_fill_53178 rfl (Nat.le_of_ble_eq_true rfl) rfl sm_J7_fill_53178 sl_X3_18 ⟨by decide, by decide⟩ (by decide) (by decide) (by decide) (gfill (by decide)) (fun w1 h1 => ?_)
  subst h1
  refine GW.aload_n (j := 0) dX3_init_28 rfl ?_
  refine GW.get (i := 0) (j := 1) (v := .ref (ad2 12)) dX3_init_29 cls_X3 (by decide) rfl flI_X3_15 rfl rfl ?_
  refine GW.iconst dX3_init_32 ?_
  refine GW.perm (perm3 _ _ _) ?_
  show GW D cA mX3_init 2 32 _ _ _ ([(q, .inr (3, fdP ad2 (fun _ _ => 0) 10 3 [12, 11])), (ad2 11, .inl (cA .int, 16, .inl (fun j => if j < 16 then 1 else 0)))] ++ [(ad2 12, .inl (cA .int, 16, .inl (fun _ => 0)))]) _ _ _
  refine GW.callS (vs := [.ref (ad2 12), .int 1]) (nP := 2) (mcy := 0) (msy := 0) (st := []) dX3_init_33 oc_J7_fill_53178 rfl (Nat.le_of_ble_eq_true rfl) rfl sm_J7_fill_53178 sl_X3_18 ⟨by decide, by decide⟩ (by decide) (by decide) (by decide) (gfill (by decide)) (fun w1 h1 => ?_)
  subst h1
  have hf := fl_of (o := 10) (ci := 3) (S := [12, 11]) (by decide) (by decide +kernel)
  have he : ([(q, .inr (3, fdP ad2 (fun _ _ => 0) 10 3 [12, 11])), (ad2 11, .inl (cA .int, 16, .inl (fun j => if j < 16 then 1 else 0)))] ++ [(ad2 12, .inl (cA .int, 16, .inl (fun j => if j < 16 then 1 else (fun _ => 0) j)))] : va_W) = [] ++ gs cA ad2 M0 q 10 3 [12, 11] [11, 12] := by
    have e1 : (fun j => Int32.ofInt (M0 11 j)) = fun j => if j < 16 then 1 else 0 := by
      funext j
      unfold M0
      by_cases hj : j < 16
      · simp [hj]
      · simp [hj]
    have e2 : (fun j => Int32.ofInt (M0 12 j)) = fun j => if j < 16 then 1 else 0 := by
      funext j
      unfold M0
      by_cases hj : j < 16
      · simp [hj]
      · simp [hj]
    have e3 : arP ad2 M0 11 .int = .inl (fun j => if j < 16 then 1 else 0) := congrArg Sum.inl e1
    have e4 : arP ad2 M0 12 .int = .inl (fun j => if j < 16 then 1 else 0) := congrArg Sum.inl e2
    show _ = [(q, _), (ad2 11, ent cA ad2 M0 11), (ad2 12, ent cA ad2 M0 12)]
    rw [ent_a (o := 11) (ty := .int) (n := 16) rfl, ent_a (o := 12) (ty := .int) (n := 16) rfl, e3, e4]
    rfl
  rw [he]
  exact GW.sdone dX3_init_36 (by decide) (by decide) hf.1 rfl (no_of (by decide +kernel)) hf.2 (fun _ _ => rfl)
theorem gi_X3_1 : GI D cA mX3_init 2 32 3 (PK cA [13, 14, 15] 13) := by
  refine GW.start (ci := 3) 13 (fun _ _ => 0) (by decide) (fun j => rfl) (fun ad q => ?_)
  refine GW.aload_n (j := 0) dX3_init_0 rfl ?_
  refine GW.obj dX3_init_1 obj_X3 obj_I obj_C (by decide) (by decide) ?_
  refine GW.aload_n (j := 0) dX3_init_4 rfl ?_
  refine GW.bipush dX3_init_5 (by decide) ?_
  refine GW.sarr (r := 14) (N := 16) dX3_init_7 rfl (Or.inr (Or.inl rfl)) ac_int rfl (by decide) (by decide) (by decide) rfl (fun j => rfl) (rf_none rfl (by decide)) (by decide) (by decide) clo_nil (fun ad1 _ => ?_)
  refine GW.sref (j := 0) dX3_init_9 cls_X3 (by decide) rfl rfl rfl flI_X3_9 rfl (Or.inr ⟨_, rfl⟩) (uq_of (by decide) (by decide)) ?_
  refine GW.aload_n (j := 0) dX3_init_12 rfl ?_
  refine GW.bipush dX3_init_13 (by decide) ?_
  refine GW.sarr (r := 15) (N := 16) dX3_init_15 rfl (Or.inr (Or.inl rfl)) ac_int rfl (by decide) (by decide) (by decide) rfl (fun j => rfl) (rf_none rfl (by decide)) (by decide) (by decide) (clo_of (by decide +kernel)) (fun ad2 _ => ?_)
  refine GW.sref (j := 1) dX3_init_17 cls_X3 (by decide) rfl rfl rfl flI_X3_15 rfl (Or.inr ⟨_, rfl⟩) (uq_of (by decide) (by decide)) ?_
  refine GW.aload_n (j := 0) dX3_init_20 rfl ?_
  refine GW.sget (j := 0) (r := 14) dX3_init_21 cls_X3 (by decide) rfl flI_X3_9 rfl (Or.inr ⟨_, rfl⟩) (by decide) ?_
  refine GW.iconst dX3_init_24 ?_
  have hz : (fun _ => Int32.ofInt 0 : Nat → Int32) = fun _ => 0 := funext (fun _ => rfl)
  have ez : [] ++ gs cA ad2 (fun _ _ => 0) q 13 3 [15, 14] ([] ++ [14] ++ [15]) = [(q, .inr (3, fdP ad2 (fun _ _ => 0) 13 3 [15, 14])), (ad2 14, .inl (cA .int, 16, .inl (fun _ => 0))), (ad2 15, .inl (cA .int, 16, .inl (fun _ => 0)))] := by
    show [(q, _), (ad2 14, ent cA ad2 (fun _ _ => 0) 14), (ad2 15, ent cA ad2 (fun _ _ => 0) 15)] = _
    have e3 : arP ad2 (fun _ _ => 0) 14 .int = .inl (fun _ => 0) := congrArg Sum.inl hz
    have e4 : arP ad2 (fun _ _ => 0) 15 .int = .inl (fun _ => 0) := congrArg Sum.inl hz
    rw [ent_a (o := 14) (ty := .int) (n := 16) rfl, ent_a (o := 15) (ty := .int) (n := 16) rfl, e3, e4]
  rw [ez]
  refine GW.perm (perm3 _ _ _) ?_
  show GW D cA mX3_init 2 32 _ _ _ ([(q, .inr (3, fdP ad2 (fun _ _ => 0) 13 3 [15, 14])), (ad2 15, .inl (cA .int, 16, .inl (fun _ => 0)))] ++ [(ad2 14, .inl (cA .int, 16, .inl (fun _ => 0)))]) _ _ _
  refine GW.callS (vs := [.ref (ad2 14), .int 1]) (nP := 2) (mcy := 0) (msy := 0) (st := []) dX3_init_25 oc_J7_fill_53178 rfl (Nat.le_of_ble_eq_true rfl) rfl sm_J7_fill_53178 sl_X3_18 ⟨by decide, by decide⟩ (by decide) (by decide) (by decide) (gfill (by decide)) (fun w1 h1 => ?_)
  subst h1
  refine GW.aload_n (j := 0) dX3_init_28 rfl ?_
  refine GW.get (i := 0) (j := 1) (v := .ref (ad2 15)) dX3_init_29 cls_X3 (by decide) rfl flI_X3_15 rfl rfl ?_
  refine GW.iconst dX3_init_32 ?_
  refine GW.perm (perm3 _ _ _) ?_
  show GW D cA mX3_init 2 32 _ _ _ ([(q, .inr (3, fdP ad2 (fun _ _ => 0) 13 3 [15, 14])), (ad2 14, .inl (cA .int, 16, .inl (fun j => if j < 16 then 1 else 0)))] ++ [(ad2 15, .inl (cA .int, 16, .inl (fun _ => 0)))]) _ _ _
  refine GW.callS (vs := [.ref (ad2 15), .int 1]) (nP := 2) (mcy := 0) (msy := 0) (st := []) dX3_init_33 oc_J7_fill_53178 rfl (Nat.le_of_ble_eq_true rfl) rfl sm_J7_fill_53178 sl_X3_18 ⟨by decide, by decide⟩ (by decide) (by decide) (by decide) (gfill (by decide)) (fun w1 h1 => ?_)
  subst h1
  have hf := fl_of (o := 13) (ci := 3) (S := [15, 14]) (by decide) (by decide +kernel)
  have he : ([(q, .inr (3, fdP ad2 (fun _ _ => 0) 13 3 [15, 14])), (ad2 14, .inl (cA .int, 16, .inl (fun j => if j < 16 then 1 else 0)))] ++ [(ad2 15, .inl (cA .int, 16, .inl (fun j => if j < 16 then 1 else (fun _ => 0) j)))] : va_W) = [] ++ gs cA ad2 M0 q 13 3 [15, 14] [14, 15] := by
    have e1 : (fun j => Int32.ofInt (M0 14 j)) = fun j => if j < 16 then 1 else 0 := by
      funext j
      unfold M0
      by_cases hj : j < 16
      · simp [hj]
      · simp [hj]
    have e2 : (fun j => Int32.ofInt (M0 15 j)) = fun j => if j < 16 then 1 else 0 := by
      funext j
      unfold M0
      by_cases hj : j < 16
      · simp [hj]
      · simp [hj]
    have e3 : arP ad2 M0 14 .int = .inl (fun j => if j < 16 then 1 else 0) := congrArg Sum.inl e1
    have e4 : arP ad2 M0 15 .int = .inl (fun j => if j < 16 then 1 else 0) := congrArg Sum.inl e2
    show _ = [(q, _), (ad2 14, ent cA ad2 M0 14), (ad2 15, ent cA ad2 M0 15)]
    rw [ent_a (o := 14) (ty := .int) (n := 16) rfl, ent_a (o := 15) (ty := .int) (n := 16) rfl, e3, e4]
    rfl
  rw [he]
  exact GW.sdone dX3_init_36 (by decide) (by decide) hf.1 rfl (no_of (by decide +kernel)) hf.2 (fun _ _ => rfl)
theorem gi_X3_2 : GI D cA mX3_init 2 32 3 (PK cA [16, 17, 18] 16) := by
  refine GW.start (ci := 3) 16 (fun _ _ => 0) (by decide) (fun j => rfl) (fun ad q => ?_)
  refine GW.aload_n (j := 0) dX3_init_0 rfl ?_
  refine GW.obj dX3_init_1 obj_X3 obj_I obj_C (by decide) (by decide) ?_
  refine GW.aload_n (j := 0) dX3_init_4 rfl ?_
  refine GW.bipush dX3_init_5 (by decide) ?_
  refine GW.sarr (r := 17) (N := 16) dX3_init_7 rfl (Or.inr (Or.inl rfl)) ac_int rfl (by decide) (by decide) (by decide) rfl (fun j => rfl) (rf_none rfl (by decide)) (by decide) (by decide) clo_nil (fun ad1 _ => ?_)
  refine GW.sref (j := 0) dX3_init_9 cls_X3 (by decide) rfl rfl rfl flI_X3_9 rfl (Or.inr ⟨_, rfl⟩) (uq_of (by decide) (by decide)) ?_
  refine GW.aload_n (j := 0) dX3_init_12 rfl ?_
  refine GW.bipush dX3_init_13 (by decide) ?_
  refine GW.sarr (r := 18) (N := 16) dX3_init_15 rfl (Or.inr (Or.inl rfl)) ac_int rfl (by decide) (by decide) (by decide) rfl (fun j => rfl) (rf_none rfl (by decide)) (by decide) (by decide) (clo_of (by decide +kernel)) (fun ad2 _ => ?_)
  refine GW.sref (j := 1) dX3_init_17 cls_X3 (by decide) rfl rfl rfl flI_X3_15 rfl (Or.inr ⟨_, rfl⟩) (uq_of (by decide) (by decide)) ?_
  refine GW.aload_n (j := 0) dX3_init_20 rfl ?_
  refine GW.sget (j := 0) (r := 17) dX3_init_21 cls_X3 (by decide) rfl flI_X3_9 rfl (Or.inr ⟨_, rfl⟩) (by decide) ?_
  refine GW.iconst dX3_init_24 ?_
  have hz : (fun _ => Int32.ofInt 0 : Nat → Int32) = fun _ => 0 := funext (fun _ => rfl)
  have ez : [] ++ gs cA ad2 (fun _ _ => 0) q 16 3 [18, 17] ([] ++ [17] ++ [18]) = [(q, .inr (3, fdP ad2 (fun _ _ => 0) 16 3 [18, 17])), (ad2 17, .inl (cA .int, 16, .inl (fun _ => 0))), (ad2 18, .inl (cA .int, 16, .inl (fun _ => 0)))] := by
    show [(q, _), (ad2 17, ent cA ad2 (fun _ _ => 0) 17), (ad2 18, ent cA ad2 (fun _ _ => 0) 18)] = _
    have e3 : arP ad2 (fun _ _ => 0) 17 .int = .inl (fun _ => 0) := congrArg Sum.inl hz
    have e4 : arP ad2 (fun _ _ => 0) 18 .int = .inl (fun _ => 0) := congrArg Sum.inl hz
    rw [ent_a (o := 17) (ty := .int) (n := 16) rfl, ent_a (o := 18) (ty := .int) (n := 16) rfl, e3, e4]
  rw [ez]
  refine GW.perm (perm3 _ _ _) ?_
  show GW D cA mX3_init 2 32 _ _ _ ([(q, .inr (3, fdP ad2 (fun _ _ => 0) 16 3 [18, 17])), (ad2 18, .inl (cA .int, 16, .inl (fun _ => 0)))] ++ [(ad2 17, .inl (cA .int, 16, .inl (fun _ => 0)))]) _ _ _
  refine GW.callS (vs := [.ref (ad2 17), .int 1]) (nP := 2) (mcy := 0) (msy := 0) (st := []) dX3_init_25 oc_J7_fill_53178 rfl (Nat.le_of_ble_eq_true rfl) rfl sm_J7_fill_53178 sl_X3_18 ⟨by decide, by decide⟩ (by decide) (by decide) (by decide) (gfill (by decide)) (fun w1 h1 => ?_)
  subst h1
  refine GW.aload_n (j := 0) dX3_init_28 rfl ?_
  refine GW.get (i := 0) (j := 1) (v := .ref (ad2 18)) dX3_init_29 cls_X3 (by decide) rfl flI_X3_15 rfl rfl ?_
  refine GW.iconst dX3_init_32 ?_
  refine GW.perm (perm3 _ _ _) ?_
  show GW D cA mX3_init 2 32 _ _ _ ([(q, .inr (3, fdP ad2 (fun _ _ => 0) 16 3 [18, 17])), (ad2 17, .inl (cA .int, 16, .inl (fun j => if j < 16 then 1 else 0)))] ++ [(ad2 18, .inl (cA .int, 16, .inl (fun _ => 0)))]) _ _ _
  refine GW.callS (vs := [.ref (ad2 18), .int 1]) (nP := 2) (mcy := 0) (msy := 0) (st := []) dX3_init_33 oc_J7_fill_53178 rfl (Nat.le_of_ble_eq_true rfl) rfl sm_J7_fill_53178 sl_X3_18 ⟨by decide, by decide⟩ (by decide) (by decide) (by decide) (gfill (by decide)) (fun w1 h1 => ?_)
  subst h1
  have hf := fl_of (o := 16) (ci := 3) (S := [18, 17]) (by decide) (by decide +kernel)
  have he : ([(q, .inr (3, fdP ad2 (fun _ _ => 0) 16 3 [18, 17])), (ad2 17, .inl (cA .int, 16, .inl (fun j => if j < 16 then 1 else 0)))] ++ [(ad2 18, .inl (cA .int, 16, .inl (fun j => if j < 16 then 1 else (fun _ => 0) j)))] : va_W) = [] ++ gs cA ad2 M0 q 16 3 [18, 17] [17, 18] := by
    have e1 : (fun j => Int32.ofInt (M0 17 j)) = fun j => if j < 16 then 1 else 0 := by
      funext j
      unfold M0
      by_cases hj : j < 16
      · simp [hj]
      · simp [hj]
    have e2 : (fun j => Int32.ofInt (M0 18 j)) = fun j => if j < 16 then 1 else 0 := by
      funext j
      unfold M0
      by_cases hj : j < 16
      · simp [hj]
      · simp [hj]
    have e3 : arP ad2 M0 17 .int = .inl (fun j => if j < 16 then 1 else 0) := congrArg Sum.inl e1
    have e4 : arP ad2 M0 18 .int = .inl (fun j => if j < 16 then 1 else 0) := congrArg Sum.inl e2
    show _ = [(q, _), (ad2 17, ent cA ad2 M0 17), (ad2 18, ent cA ad2 M0 18)]
    rw [ent_a (o := 17) (ty := .int) (n := 16) rfl, ent_a (o := 18) (ty := .int) (n := 16) rfl, e3, e4]
    rfl
  rw [he]
  exact GW.sdone dX3_init_36 (by decide) (by decide) hf.1 rfl (no_of (by decide +kernel)) hf.2 (fun _ _ => rfl)
def LB_0 : List Nat := [21, 20, 102, 103, 104, 105, 106, 107, 108, 109, 110, 111, 112, 113, 114, 115, 116, 117]
theorem gi_X0_0 : GI D cA mX0_init 17 1224 0 (PK cA LB_0 20) := by
  refine GW.start (ci := 0) 20 M0 (by decide) (fun j => rfl) (fun ad q => ?_)
  refine GW.aload_n (j := 0) dX0_init_0 rfl ?_
  refine GW.obj dX0_init_1 obj_X0 obj_I obj_C (by decide) (by decide) ?_
  refine GW.aload_n (j := 0) dX0_init_4 rfl ?_
  refine GW.bipush dX0_init_5 (by decide) ?_
  refine GW.snew (x := 21) (N := 8) dX0_init_7 (Or.inr rfl) clI_X0_9 rfl (by decide) (by decide) (by decide) (by decide) (by decide) clo_nil (fun ad0 _ => ?_)
  refine GW.sref (j := 0) (r := 21) dX0_init_10 cls_X0 (by decide) rfl rfl rfl flI_X0_11 rfl (Or.inr ⟨_, rfl⟩) (uq_of (by decide) (by decide)) ?_
  refine GW.aload_n (j := 0) dX0_init_13 rfl ?_
  refine GW.iconst dX0_init_14 ?_
  refine GW.sval0 (j := 1) dX0_init_15 cls_X0 (by decide) rfl rfl rfl flI_X0_17 rfl in_i0 rfl (by decide) ?_
  refine GW.iconst dX0_init_18 ?_
  refine GW.istore_n (j := 1) (loc' := [(1, .int (Int32.ofInt ((0 : Nat) : Int))), (0, .ref q)]) dX0_init_19 rfl (by decide) rfl ?_
  refine GW.siter (b := 20) (off := 22) (t0 := 4) (j := 0) (x := 21) (r := 102) (i := 0) (N := 8) (L1 := [102, 103]) dX0_init_20 dX0_init_21 dX0_init_22 dX0_init_25 dX0_init_26 dX0_init_29 dX0_init_30 dX0_init_33 dX0_init_34 dX0_init_37 dX0_init_38 dX0_init_41 dX0_init_42 dX0_init_45 cls_X0 (by decide) rfl flI_X0_11 rfl (Or.inr ⟨_, rfl⟩) (by decide) (Or.inr rfl) rfl cls_X6 rfl oc_X6_init rfl rfl rfl (by decide) clI_X0_9 inst_X6 im_X6_init mlI_X0_21 ⟨by decide, by decide⟩ (by decide) (by decide) (by decide) (gi_X6 (t := 1) (by decide)) (by decide) (fun _ _ => rfl) (by decide) (by decide) clo_nil (clo_of (by decide +kernel)) (by decide) (by decide) rfl (fun j r' hj _ => by omega) (fun ad1 _ => ?_)
  refine GW.siter (b := 20) (off := 22) (t0 := 4) (j := 0) (x := 21) (r := 104) (i := 1) (N := 8) (L1 := [104, 105]) dX0_init_20 dX0_init_21 dX0_init_22 dX0_init_25 dX0_init_26 dX0_init_29 dX0_init_30 dX0_init_33 dX0_init_34 dX0_init_37 dX0_init_38 dX0_init_41 dX0_init_42 dX0_init_45 cls_X0 (by decide) rfl flI_X0_11 rfl (Or.inr ⟨_, rfl⟩) (by decide) (Or.inr rfl) rfl cls_X6 rfl oc_X6_init rfl rfl rfl (by decide) clI_X0_9 inst_X6 im_X6_init mlI_X0_21 ⟨by decide, by decide⟩ (by decide) (by decide) (by decide) (gi_X6 (t := 2) (by decide)) (by decide) (fun _ _ => rfl) (by decide) (by decide) (clo_of (by decide +kernel)) (clo_of (by decide +kernel)) (by decide) (by decide) rfl (fun j r' hj hr => by
    have : ∀ j, j < 1 → ∀ r', rfs 21 j = some r' → r' ∉ [104, 105] := by decide
    exact this j hj r' hr) (fun ad2 _ => ?_)
  refine GW.siter (b := 20) (off := 22) (t0 := 4) (j := 0) (x := 21) (r := 106) (i := 2) (N := 8) (L1 := [106, 107]) dX0_init_20 dX0_init_21 dX0_init_22 dX0_init_25 dX0_init_26 dX0_init_29 dX0_init_30 dX0_init_33 dX0_init_34 dX0_init_37 dX0_init_38 dX0_init_41 dX0_init_42 dX0_init_45 cls_X0 (by decide) rfl flI_X0_11 rfl (Or.inr ⟨_, rfl⟩) (by decide) (Or.inr rfl) rfl cls_X6 rfl oc_X6_init rfl rfl rfl (by decide) clI_X0_9 inst_X6 im_X6_init mlI_X0_21 ⟨by decide, by decide⟩ (by decide) (by decide) (by decide) (gi_X6 (t := 3) (by decide)) (by decide) (fun _ _ => rfl) (by decide) (by decide) (clo_of (by decide +kernel)) (clo_of (by decide +kernel)) (by decide) (by decide) rfl (fun j r' hj hr => by
    have : ∀ j, j < 2 → ∀ r', rfs 21 j = some r' → r' ∉ [106, 107] := by decide
    exact this j hj r' hr) (fun ad3 _ => ?_)
  refine GW.siter (b := 20) (off := 22) (t0 := 4) (j := 0) (x := 21) (r := 108) (i := 3) (N := 8) (L1 := [108, 109]) dX0_init_20 dX0_init_21 dX0_init_22 dX0_init_25 dX0_init_26 dX0_init_29 dX0_init_30 dX0_init_33 dX0_init_34 dX0_init_37 dX0_init_38 dX0_init_41 dX0_init_42 dX0_init_45 cls_X0 (by decide) rfl flI_X0_11 rfl (Or.inr ⟨_, rfl⟩) (by decide) (Or.inr rfl) rfl cls_X6 rfl oc_X6_init rfl rfl rfl (by decide) clI_X0_9 inst_X6 im_X6_init mlI_X0_21 ⟨by decide, by decide⟩ (by decide) (by decide) (by decide) (gi_X6 (t := 4) (by decide)) (by decide) (fun _ _ => rfl) (by decide) (by decide) (clo_of (by decide +kernel)) (clo_of (by decide +kernel)) (by decide) (by decide) rfl (fun j r' hj hr => by
    have : ∀ j, j < 3 → ∀ r', rfs 21 j = some r' → r' ∉ [108, 109] := by decide
    exact this j hj r' hr) (fun ad4 _ => ?_)
  refine GW.siter (b := 20) (off := 22) (t0 := 4) (j := 0) (x := 21) (r := 110) (i := 4) (N := 8) (L1 := [110, 111]) dX0_init_20 dX0_init_21 dX0_init_22 dX0_init_25 dX0_init_26 dX0_init_29 dX0_init_30 dX0_init_33 dX0_init_34 dX0_init_37 dX0_init_38 dX0_init_41 dX0_init_42 dX0_init_45 cls_X0 (by decide) rfl flI_X0_11 rfl (Or.inr ⟨_, rfl⟩) (by decide) (Or.inr rfl) rfl cls_X6 rfl oc_X6_init rfl rfl rfl (by decide) clI_X0_9 inst_X6 im_X6_init mlI_X0_21 ⟨by decide, by decide⟩ (by decide) (by decide) (by decide) (gi_X6 (t := 5) (by decide)) (by decide) (fun _ _ => rfl) (by decide) (by decide) (clo_of (by decide +kernel)) (clo_of (by decide +kernel)) (by decide) (by decide) rfl (fun j r' hj hr => by
    have : ∀ j, j < 4 → ∀ r', rfs 21 j = some r' → r' ∉ [110, 111] := by decide
    exact this j hj r' hr) (fun ad5 _ => ?_)
  refine GW.siter (b := 20) (off := 22) (t0 := 4) (j := 0) (x := 21) (r := 112) (i := 5) (N := 8) (L1 := [112, 113]) dX0_init_20 dX0_init_21 dX0_init_22 dX0_init_25 dX0_init_26 dX0_init_29 dX0_init_30 dX0_init_33 dX0_init_34 dX0_init_37 dX0_init_38 dX0_init_41 dX0_init_42 dX0_init_45 cls_X0 (by decide) rfl flI_X0_11 rfl (Or.inr ⟨_, rfl⟩) (by decide) (Or.inr rfl) rfl cls_X6 rfl oc_X6_init rfl rfl rfl (by decide) clI_X0_9 inst_X6 im_X6_init mlI_X0_21 ⟨by decide, by decide⟩ (by decide) (by decide) (by decide) (gi_X6 (t := 6) (by decide)) (by decide) (fun _ _ => rfl) (by decide) (by decide) (clo_of (by decide +kernel)) (clo_of (by decide +kernel)) (by decide) (by decide) rfl (fun j r' hj hr => by
    have : ∀ j, j < 5 → ∀ r', rfs 21 j = some r' → r' ∉ [112, 113] := by decide
    exact this j hj r' hr) (fun ad6 _ => ?_)
  refine GW.siter (b := 20) (off := 22) (t0 := 4) (j := 0) (x := 21) (r := 114) (i := 6) (N := 8) (L1 := [114, 115]) dX0_init_20 dX0_init_21 dX0_init_22 dX0_init_25 dX0_init_26 dX0_init_29 dX0_init_30 dX0_init_33 dX0_init_34 dX0_init_37 dX0_init_38 dX0_init_41 dX0_init_42 dX0_init_45 cls_X0 (by decide) rfl flI_X0_11 rfl (Or.inr ⟨_, rfl⟩) (by decide) (Or.inr rfl) rfl cls_X6 rfl oc_X6_init rfl rfl rfl (by decide) clI_X0_9 inst_X6 im_X6_init mlI_X0_21 ⟨by decide, by decide⟩ (by decide) (by decide) (by decide) (gi_X6 (t := 7) (by decide)) (by decide) (fun _ _ => rfl) (by decide) (by decide) (clo_of (by decide +kernel)) (clo_of (by decide +kernel)) (by decide) (by decide) rfl (fun j r' hj hr => by
    have : ∀ j, j < 6 → ∀ r', rfs 21 j = some r' → r' ∉ [114, 115] := by decide
    exact this j hj r' hr) (fun ad7 _ => ?_)
  refine GW.siter (b := 20) (off := 22) (t0 := 4) (j := 0) (x := 21) (r := 116) (i := 7) (N := 8) (L1 := [116, 117]) dX0_init_20 dX0_init_21 dX0_init_22 dX0_init_25 dX0_init_26 dX0_init_29 dX0_init_30 dX0_init_33 dX0_init_34 dX0_init_37 dX0_init_38 dX0_init_41 dX0_init_42 dX0_init_45 cls_X0 (by decide) rfl flI_X0_11 rfl (Or.inr ⟨_, rfl⟩) (by decide) (Or.inr rfl) rfl cls_X6 rfl oc_X6_init rfl rfl rfl (by decide) clI_X0_9 inst_X6 im_X6_init mlI_X0_21 ⟨by decide, by decide⟩ (by decide) (by decide) (by decide) (gi_X6 (t := 8) (by decide)) (by decide) (fun _ _ => rfl) (by decide) (by decide) (clo_of (by decide +kernel)) (clo_of (by decide +kernel)) (by decide) (by decide) rfl (fun j r' hj hr => by
    have : ∀ j, j < 7 → ∀ r', rfs 21 j = some r' → r' ∉ [116, 117] := by decide
    exact this j hj r' hr) (fun ad8 _ => ?_)
  refine GW.iload_n (j := 0) dX0_init_20 rfl ?_
  refine GW.aload_n (j := 1) dX0_init_21 rfl ?_
  refine GW.sget (j := 0) (r := 21) dX0_init_22 cls_X0 (by decide) rfl flI_X0_11 rfl (Or.inr ⟨_, rfl⟩) (by decide) ?_
  refine GW.alenN (i := 0) (N := 8) dX0_init_25 (Or.inr (Or.inr (Or.inr (Or.inr rfl)))) rfl rfl ?_
  refine GW.icmp_ge (tgt := 48) dX0_init_26 (by decide) (by decide) (by decide) (fun _ => ?_) (fun h => absurd h (by decide))
  have hf := fl_of (o := 20) (ci := 0) (S := [21]) (by decide) (by decide +kernel)
  exact GW.xdone dX0_init_48 (by decide) (by decide) rfl (hN_of (by decide) (by decide)) hf.1 rfl (no_of (by decide +kernel)) hf.2 (fun _ _ => rfl)
def LB_1 : List Nat := [23, 22, 120, 121, 122, 123, 124, 125, 126, 127, 128, 129, 130, 131, 132, 133, 134, 135]
theorem gi_X0_1 : GI D cA mX0_init 17 1224 0 (PK cA LB_1 22) := by
  refine GW.start (ci := 0) 22 M0 (by decide) (fun j => rfl) (fun ad q => ?_)
  refine GW.aload_n (j := 0) dX0_init_0 rfl ?_
  refine GW.obj dX0_init_1 obj_X0 obj_I obj_C (by decide) (by decide) ?_
  refine GW.aload_n (j := 0) dX0_init_4 rfl ?_
  refine GW.bipush dX0_init_5 (by decide) ?_
  refine GW.snew (x := 23) (N := 8) dX0_init_7 (Or.inr rfl) clI_X0_9 rfl (by decide) (by decide) (by decide) (by decide) (by decide) clo_nil (fun ad0 _ => ?_)
  refine GW.sref (j := 0) (r := 23) dX0_init_10 cls_X0 (by decide) rfl rfl rfl flI_X0_11 rfl (Or.inr ⟨_, rfl⟩) (uq_of (by decide) (by decide)) ?_
  refine GW.aload_n (j := 0) dX0_init_13 rfl ?_
  refine GW.iconst dX0_init_14 ?_
  refine GW.sval0 (j := 1) dX0_init_15 cls_X0 (by decide) rfl rfl rfl flI_X0_17 rfl in_i0 rfl (by decide) ?_
  refine GW.iconst dX0_init_18 ?_
  refine GW.istore_n (j := 1) (loc' := [(1, .int (Int32.ofInt ((0 : Nat) : Int))), (0, .ref q)]) dX0_init_19 rfl (by decide) rfl ?_
  refine GW.siter (b := 20) (off := 22) (t0 := 4) (j := 0) (x := 23) (r := 120) (i := 0) (N := 8) (L1 := [120, 121]) dX0_init_20 dX0_init_21 dX0_init_22 dX0_init_25 dX0_init_26 dX0_init_29 dX0_init_30 dX0_init_33 dX0_init_34 dX0_init_37 dX0_init_38 dX0_init_41 dX0_init_42 dX0_init_45 cls_X0 (by decide) rfl flI_X0_11 rfl (Or.inr ⟨_, rfl⟩) (by decide) (Or.inr rfl) rfl cls_X6 rfl oc_X6_init rfl rfl rfl (by decide) clI_X0_9 inst_X6 im_X6_init mlI_X0_21 ⟨by decide, by decide⟩ (by decide) (by decide) (by decide) (gi_X6 (t := 10) (by decide)) (by decide) (fun _ _ => rfl) (by decide) (by decide) clo_nil (clo_of (by decide +kernel)) (by decide) (by decide) rfl (fun j r' hj _ => by omega) (fun ad1 _ => ?_)
  refine GW.siter (b := 20) (off := 22) (t0 := 4) (j := 0) (x := 23) (r := 122) (i := 1) (N := 8) (L1 := [122, 123]) dX0_init_20 dX0_init_21 dX0_init_22 dX0_init_25 dX0_init_26 dX0_init_29 dX0_init_30 dX0_init_33 dX0_init_34 dX0_init_37 dX0_init_38 dX0_init_41 dX0_init_42 dX0_init_45 cls_X0 (by decide) rfl flI_X0_11 rfl (Or.inr ⟨_, rfl⟩) (by decide) (Or.inr rfl) rfl cls_X6 rfl oc_X6_init rfl rfl rfl (by decide) clI_X0_9 inst_X6 im_X6_init mlI_X0_21 ⟨by decide, by decide⟩ (by decide) (by decide) (by decide) (gi_X6 (t := 11) (by decide)) (by decide) (fun _ _ => rfl) (by decide) (by decide) (clo_of (by decide +kernel)) (clo_of (by decide +kernel)) (by decide) (by decide) rfl (fun j r' hj hr => by
    have : ∀ j, j < 1 → ∀ r', rfs 23 j = some r' → r' ∉ [122, 123] := by decide
    exact this j hj r' hr) (fun ad2 _ => ?_)
  refine GW.siter (b := 20) (off := 22) (t0 := 4) (j := 0) (x := 23) (r := 124) (i := 2) (N := 8) (L1 := [124, 125]) dX0_init_20 dX0_init_21 dX0_init_22 dX0_init_25 dX0_init_26 dX0_init_29 dX0_init_30 dX0_init_33 dX0_init_34 dX0_init_37 dX0_init_38 dX0_init_41 dX0_init_42 dX0_init_45 cls_X0 (by decide) rfl flI_X0_11 rfl (Or.inr ⟨_, rfl⟩) (by decide) (Or.inr rfl) rfl cls_X6 rfl oc_X6_init rfl rfl rfl (by decide) clI_X0_9 inst_X6 im_X6_init mlI_X0_21 ⟨by decide, by decide⟩ (by decide) (by decide) (by decide) (gi_X6 (t := 12) (by decide)) (by decide) (fun _ _ => rfl) (by decide) (by decide) (clo_of (by decide +kernel)) (clo_of (by decide +kernel)) (by decide) (by decide) rfl (fun j r' hj hr => by
    have : ∀ j, j < 2 → ∀ r', rfs 23 j = some r' → r' ∉ [124, 125] := by decide
    exact this j hj r' hr) (fun ad3 _ => ?_)
  refine GW.siter (b := 20) (off := 22) (t0 := 4) (j := 0) (x := 23) (r := 126) (i := 3) (N := 8) (L1 := [126, 127]) dX0_init_20 dX0_init_21 dX0_init_22 dX0_init_25 dX0_init_26 dX0_init_29 dX0_init_30 dX0_init_33 dX0_init_34 dX0_init_37 dX0_init_38 dX0_init_41 dX0_init_42 dX0_init_45 cls_X0 (by decide) rfl flI_X0_11 rfl (Or.inr ⟨_, rfl⟩) (by decide) (Or.inr rfl) rfl cls_X6 rfl oc_X6_init rfl rfl rfl (by decide) clI_X0_9 inst_X6 im_X6_init mlI_X0_21 ⟨by decide, by decide⟩ (by decide) (by decide) (by decide) (gi_X6 (t := 13) (by decide)) (by decide) (fun _ _ => rfl) (by decide) (by decide) (clo_of (by decide +kernel)) (clo_of (by decide +kernel)) (by decide) (by decide) rfl (fun j r' hj hr => by
    have : ∀ j, j < 3 → ∀ r', rfs 23 j = some r' → r' ∉ [126, 127] := by decide
    exact this j hj r' hr) (fun ad4 _ => ?_)
  refine GW.siter (b := 20) (off := 22) (t0 := 4) (j := 0) (x := 23) (r := 128) (i := 4) (N := 8) (L1 := [128, 129]) dX0_init_20 dX0_init_21 dX0_init_22 dX0_init_25 dX0_init_26 dX0_init_29 dX0_init_30 dX0_init_33 dX0_init_34 dX0_init_37 dX0_init_38 dX0_init_41 dX0_init_42 dX0_init_45 cls_X0 (by decide) rfl flI_X0_11 rfl (Or.inr ⟨_, rfl⟩) (by decide) (Or.inr rfl) rfl cls_X6 rfl oc_X6_init rfl rfl rfl (by decide) clI_X0_9 inst_X6 im_X6_init mlI_X0_21 ⟨by decide, by decide⟩ (by decide) (by decide) (by decide) (gi_X6 (t := 14) (by decide)) (by decide) (fun _ _ => rfl) (by decide) (by decide) (clo_of (by decide +kernel)) (clo_of (by decide +kernel)) (by decide) (by decide) rfl (fun j r' hj hr => by
    have : ∀ j, j < 4 → ∀ r', rfs 23 j = some r' → r' ∉ [128, 129] := by decide
    exact this j hj r' hr) (fun ad5 _ => ?_)
  refine GW.siter (b := 20) (off := 22) (t0 := 4) (j := 0) (x := 23) (r := 130) (i := 5) (N := 8) (L1 := [130, 131]) dX0_init_20 dX0_init_21 dX0_init_22 dX0_init_25 dX0_init_26 dX0_init_29 dX0_init_30 dX0_init_33 dX0_init_34 dX0_init_37 dX0_init_38 dX0_init_41 dX0_init_42 dX0_init_45 cls_X0 (by decide) rfl flI_X0_11 rfl (Or.inr ⟨_, rfl⟩) (by decide) (Or.inr rfl) rfl cls_X6 rfl oc_X6_init rfl rfl rfl (by decide) clI_X0_9 inst_X6 im_X6_init mlI_X0_21 ⟨by decide, by decide⟩ (by decide) (by decide) (by decide) (gi_X6 (t := 15) (by decide)) (by decide) (fun _ _ => rfl) (by decide) (by decide) (clo_of (by decide +kernel)) (clo_of (by decide +kernel)) (by decide) (by decide) rfl (fun j r' hj hr => by
    have : ∀ j, j < 5 → ∀ r', rfs 23 j = some r' → r' ∉ [130, 131] := by decide
    exact this j hj r' hr) (fun ad6 _ => ?_)
  refine GW.siter (b := 20) (off := 22) (t0 := 4) (j := 0) (x := 23) (r := 132) (i := 6) (N := 8) (L1 := [132, 133]) dX0_init_20 dX0_init_21 dX0_init_22 dX0_init_25 dX0_init_26 dX0_init_29 dX0_init_30 dX0_init_33 dX0_init_34 dX0_init_37 dX0_init_38 dX0_init_41 dX0_init_42 dX0_init_45 cls_X0 (by decide) rfl flI_X0_11 rfl (Or.inr ⟨_, rfl⟩) (by decide) (Or.inr rfl) rfl cls_X6 rfl oc_X6_init rfl rfl rfl (by decide) clI_X0_9 inst_X6 im_X6_init mlI_X0_21 ⟨by decide, by decide⟩ (by decide) (by decide) (by decide) (gi_X6 (t := 16) (by decide)) (by decide) (fun _ _ => rfl) (by decide) (by decide) (clo_of (by decide +kernel)) (clo_of (by decide +kernel)) (by decide) (by decide) rfl (fun j r' hj hr => by
    have : ∀ j, j < 6 → ∀ r', rfs 23 j = some r' → r' ∉ [132, 133] := by decide
    exact this j hj r' hr) (fun ad7 _ => ?_)
  refine GW.siter (b := 20) (off := 22) (t0 := 4) (j := 0) (x := 23) (r := 134) (i := 7) (N := 8) (L1 := [134, 135]) dX0_init_20 dX0_init_21 dX0_init_22 dX0_init_25 dX0_init_26 dX0_init_29 dX0_init_30 dX0_init_33 dX0_init_34 dX0_init_37 dX0_init_38 dX0_init_41 dX0_init_42 dX0_init_45 cls_X0 (by decide) rfl flI_X0_11 rfl (Or.inr ⟨_, rfl⟩) (by decide) (Or.inr rfl) rfl cls_X6 rfl oc_X6_init rfl rfl rfl (by decide) clI_X0_9 inst_X6 im_X6_init mlI_X0_21 ⟨by decide, by decide⟩ (by decide) (by decide) (by decide) (gi_X6 (t := 17) (by decide)) (by decide) (fun _ _ => rfl) (by decide) (by decide) (clo_of (by decide +kernel)) (clo_of (by decide +kernel)) (by decide) (by decide) rfl (fun j r' hj hr => by
    have : ∀ j, j < 7 → ∀ r', rfs 23 j = some r' → r' ∉ [134, 135] := by decide
    exact this j hj r' hr) (fun ad8 _ => ?_)
  refine GW.iload_n (j := 0) dX0_init_20 rfl ?_
  refine GW.aload_n (j := 1) dX0_init_21 rfl ?_
  refine GW.sget (j := 0) (r := 23) dX0_init_22 cls_X0 (by decide) rfl flI_X0_11 rfl (Or.inr ⟨_, rfl⟩) (by decide) ?_
  refine GW.alenN (i := 0) (N := 8) dX0_init_25 (Or.inr (Or.inr (Or.inr (Or.inr rfl)))) rfl rfl ?_
  refine GW.icmp_ge (tgt := 48) dX0_init_26 (by decide) (by decide) (by decide) (fun _ => ?_) (fun h => absurd h (by decide))
  have hf := fl_of (o := 22) (ci := 0) (S := [23]) (by decide) (by decide +kernel)
  exact GW.xdone dX0_init_48 (by decide) (by decide) rfl (hN_of (by decide) (by decide)) hf.1 rfl (no_of (by decide +kernel)) hf.2 (fun _ _ => rfl)
def LB_2 : List Nat := [25, 24, 138, 139, 140, 141, 142, 143, 144, 145, 146, 147, 148, 149, 150, 151, 152, 153]
theorem gi_X0_2 : GI D cA mX0_init 17 1224 0 (PK cA LB_2 24) := by
  refine GW.start (ci := 0) 24 M0 (by decide) (fun j => rfl) (fun ad q => ?_)
  refine GW.aload_n (j := 0) dX0_init_0 rfl ?_
  refine GW.obj dX0_init_1 obj_X0 obj_I obj_C (by decide) (by decide) ?_
  refine GW.aload_n (j := 0) dX0_init_4 rfl ?_
  refine GW.bipush dX0_init_5 (by decide) ?_
  refine GW.snew (x := 25) (N := 8) dX0_init_7 (Or.inr rfl) clI_X0_9 rfl (by decide) (by decide) (by decide) (by decide) (by decide) clo_nil (fun ad0 _ => ?_)
  refine GW.sref (j := 0) (r := 25) dX0_init_10 cls_X0 (by decide) rfl rfl rfl flI_X0_11 rfl (Or.inr ⟨_, rfl⟩) (uq_of (by decide) (by decide)) ?_
  refine GW.aload_n (j := 0) dX0_init_13 rfl ?_
  refine GW.iconst dX0_init_14 ?_
  refine GW.sval0 (j := 1) dX0_init_15 cls_X0 (by decide) rfl rfl rfl flI_X0_17 rfl in_i0 rfl (by decide) ?_
  refine GW.iconst dX0_init_18 ?_
  refine GW.istore_n (j := 1) (loc' := [(1, .int (Int32.ofInt ((0 : Nat) : Int))), (0, .ref q)]) dX0_init_19 rfl (by decide) rfl ?_
  refine GW.siter (b := 20) (off := 22) (t0 := 4) (j := 0) (x := 25) (r := 138) (i := 0) (N := 8) (L1 := [138, 139]) dX0_init_20 dX0_init_21 dX0_init_22 dX0_init_25 dX0_init_26 dX0_init_29 dX0_init_30 dX0_init_33 dX0_init_34 dX0_init_37 dX0_init_38 dX0_init_41 dX0_init_42 dX0_init_45 cls_X0 (by decide) rfl flI_X0_11 rfl (Or.inr ⟨_, rfl⟩) (by decide) (Or.inr rfl) rfl cls_X6 rfl oc_X6_init rfl rfl rfl (by decide) clI_X0_9 inst_X6 im_X6_init mlI_X0_21 ⟨by decide, by decide⟩ (by decide) (by decide) (by decide) (gi_X6 (t := 19) (by decide)) (by decide) (fun _ _ => rfl) (by decide) (by decide) clo_nil (clo_of (by decide +kernel)) (by decide) (by decide) rfl (fun j r' hj _ => by omega) (fun ad1 _ => ?_)
  refine GW.siter (b := 20) (off := 22) (t0 := 4) (j := 0) (x := 25) (r := 140) (i := 1) (N := 8) (L1 := [140, 141]) dX0_init_20 dX0_init_21 dX0_init_22 dX0_init_25 dX0_init_26 dX0_init_29 dX0_init_30 dX0_init_33 dX0_init_34 dX0_init_37 dX0_init_38 dX0_init_41 dX0_init_42 dX0_init_45 cls_X0 (by decide) rfl flI_X0_11 rfl (Or.inr ⟨_, rfl⟩) (by decide) (Or.inr rfl) rfl cls_X6 rfl oc_X6_init rfl rfl rfl (by decide) clI_X0_9 inst_X6 im_X6_init mlI_X0_21 ⟨by decide, by decide⟩ (by decide) (by decide) (by decide) (gi_X6 (t := 20) (by decide)) (by decide) (fun _ _ => rfl) (by decide) (by decide) (clo_of (by decide +kernel)) (clo_of (by decide +kernel)) (by decide) (by decide) rfl (fun j r' hj hr => by
    have : ∀ j, j < 1 → ∀ r', rfs 25 j = some r' → r' ∉ [140, 141] := by decide
    exact this j hj r' hr) (fun ad2 _ => ?_)
  refine GW.siter (b := 20) (off := 22) (t0 := 4) (j := 0) (x := 25) (r := 142) (i := 2) (N := 8) (L1 := [142, 143]) dX0_init_20 dX0_init_21 dX0_init_22 dX0_init_25 dX0_init_26 dX0_init_29 dX0_init_30 dX0_init_33 dX0_init_34 dX0_init_37 dX0_init_38 dX0_init_41 dX0_init_42 dX0_init_45 cls_X0 (by decide) rfl flI_X0_11 rfl (Or.inr ⟨_, rfl⟩) (by decide) (Or.inr rfl) rfl cls_X6 rfl oc_X6_init rfl rfl rfl (by decide) clI_X0_9 inst_X6 im_X6_init mlI_X0_21 ⟨by decide, by decide⟩ (by decide) (by decide) (by decide) (gi_X6 (t := 21) (by decide)) (by decide) (fun _ _ => rfl) (by decide) (by decide) (clo_of (by decide +kernel)) (clo_of (by decide +kernel)) (by decide) (by decide) rfl (fun j r' hj hr => by
    have : ∀ j, j < 2 → ∀ r', rfs 25 j = some r' → r' ∉ [142, 143] := by decide
    exact this j hj r' hr) (fun ad3 _ => ?_)
  refine GW.siter (b := 20) (off := 22) (t0 := 4) (j := 0) (x := 25) (r := 144) (i := 3) (N := 8) (L1 := [144, 145]) dX0_init_20 dX0_init_21 dX0_init_22 dX0_init_25 dX0_init_26 dX0_init_29 dX0_init_30 dX0_init_33 dX0_init_34 dX0_init_37 dX0_init_38 dX0_init_41 dX0_init_42 dX0_init_45 cls_X0 (by decide) rfl flI_X0_11 rfl (Or.inr ⟨_, rfl⟩) (by decide) (Or.inr rfl) rfl cls_X6 rfl oc_X6_init rfl rfl rfl (by decide) clI_X0_9 inst_X6 im_X6_init mlI_X0_21 ⟨by decide, by decide⟩ (by decide) (by decide) (by decide) (gi_X6 (t := 22) (by decide)) (by decide) (fun _ _ => rfl) (by decide) (by decide) (clo_of (by decide +kernel)) (clo_of (by decide +kernel)) (by decide) (by decide) rfl (fun j r' hj hr => by
    have : ∀ j, j < 3 → ∀ r', rfs 25 j = some r' → r' ∉ [144, 145] := by decide
    exact this j hj r' hr) (fun ad4 _ => ?_)
  refine GW.siter (b := 20) (off := 22) (t0 := 4) (j := 0) (x := 25) (r := 146) (i := 4) (N := 8) (L1 := [146, 147]) dX0_init_20 dX0_init_21 dX0_init_22 dX0_init_25 dX0_init_26 dX0_init_29 dX0_init_30 dX0_init_33 dX0_init_34 dX0_init_37 dX0_init_38 dX0_init_41 dX0_init_42 dX0_init_45 cls_X0 (by decide) rfl flI_X0_11 rfl (Or.inr ⟨_, rfl⟩) (by decide) (Or.inr rfl) rfl cls_X6 rfl oc_X6_init rfl rfl rfl (by decide) clI_X0_9 inst_X6 im_X6_init mlI_X0_21 ⟨by decide, by decide⟩ (by decide) (by decide) (by decide) (gi_X6 (t := 23) (by decide)) (by decide) (fun _ _ => rfl) (by decide) (by decide) (clo_of (by decide +kernel)) (clo_of (by decide +kernel)) (by decide) (by decide) rfl (fun j r' hj hr => by
    have : ∀ j, j < 4 → ∀ r', rfs 25 j = some r' → r' ∉ [146, 147] := by decide
    exact this j hj r' hr) (fun ad5 _ => ?_)
  refine GW.siter (b := 20) (off := 22) (t0 := 4) (j := 0) (x := 25) (r := 148) (i := 5) (N := 8) (L1 := [148, 149]) dX0_init_20 dX0_init_21 dX0_init_22 dX0_init_25 dX0_init_26 dX0_init_29 dX0_init_30 dX0_init_33 dX0_init_34 dX0_init_37 dX0_init_38 dX0_init_41 dX0_init_42 dX0_init_45 cls_X0 (by decide) rfl flI_X0_11 rfl (Or.inr ⟨_, rfl⟩) (by decide) (Or.inr rfl) rfl cls_X6 rfl oc_X6_init rfl rfl rfl (by decide) clI_X0_9 inst_X6 im_X6_init mlI_X0_21 ⟨by decide, by decide⟩ (by decide) (by decide) (by decide) (gi_X6 (t := 24) (by decide)) (by decide) (fun _ _ => rfl) (by decide) (by decide) (clo_of (by decide +kernel)) (clo_of (by decide +kernel)) (by decide) (by decide) rfl (fun j r' hj hr => by
    have : ∀ j, j < 5 → ∀ r', rfs 25 j = some r' → r' ∉ [148, 149] := by decide
    exact this j hj r' hr) (fun ad6 _ => ?_)
  refine GW.siter (b := 20) (off := 22) (t0 := 4) (j := 0) (x := 25) (r := 150) (i := 6) (N := 8) (L1 := [150, 151]) dX0_init_20 dX0_init_21 dX0_init_22 dX0_init_25 dX0_init_26 dX0_init_29 dX0_init_30 dX0_init_33 dX0_init_34 dX0_init_37 dX0_init_38 dX0_init_41 dX0_init_42 dX0_init_45 cls_X0 (by decide) rfl flI_X0_11 rfl (Or.inr ⟨_, rfl⟩) (by decide) (Or.inr rfl) rfl cls_X6 rfl oc_X6_init rfl rfl rfl (by decide) clI_X0_9 inst_X6 im_X6_init mlI_X0_21 ⟨by decide, by decide⟩ (by decide) (by decide) (by decide) (gi_X6 (t := 25) (by decide)) (by decide) (fun _ _ => rfl) (by decide) (by decide) (clo_of (by decide +kernel)) (clo_of (by decide +kernel)) (by decide) (by decide) rfl (fun j r' hj hr => by
    have : ∀ j, j < 6 → ∀ r', rfs 25 j = some r' → r' ∉ [150, 151] := by decide
    exact this j hj r' hr) (fun ad7 _ => ?_)
  refine GW.siter (b := 20) (off := 22) (t0 := 4) (j := 0) (x := 25) (r := 152) (i := 7) (N := 8) (L1 := [152, 153]) dX0_init_20 dX0_init_21 dX0_init_22 dX0_init_25 dX0_init_26 dX0_init_29 dX0_init_30 dX0_init_33 dX0_init_34 dX0_init_37 dX0_init_38 dX0_init_41 dX0_init_42 dX0_init_45 cls_X0 (by decide) rfl flI_X0_11 rfl (Or.inr ⟨_, rfl⟩) (by decide) (Or.inr rfl) rfl cls_X6 rfl oc_X6_init rfl rfl rfl (by decide) clI_X0_9 inst_X6 im_X6_init mlI_X0_21 ⟨by decide, by decide⟩ (by decide) (by decide) (by decide) (gi_X6 (t := 26) (by decide)) (by decide) (fun _ _ => rfl) (by decide) (by decide) (clo_of (by decide +kernel)) (clo_of (by decide +kernel)) (by decide) (by decide) rfl (fun j r' hj hr => by
    have : ∀ j, j < 7 → ∀ r', rfs 25 j = some r' → r' ∉ [152, 153] := by decide
    exact this j hj r' hr) (fun ad8 _ => ?_)
  refine GW.iload_n (j := 0) dX0_init_20 rfl ?_
  refine GW.aload_n (j := 1) dX0_init_21 rfl ?_
  refine GW.sget (j := 0) (r := 25) dX0_init_22 cls_X0 (by decide) rfl flI_X0_11 rfl (Or.inr ⟨_, rfl⟩) (by decide) ?_
  refine GW.alenN (i := 0) (N := 8) dX0_init_25 (Or.inr (Or.inr (Or.inr (Or.inr rfl)))) rfl rfl ?_
  refine GW.icmp_ge (tgt := 48) dX0_init_26 (by decide) (by decide) (by decide) (fun _ => ?_) (fun h => absurd h (by decide))
  have hf := fl_of (o := 24) (ci := 0) (S := [25]) (by decide) (by decide +kernel)
  exact GW.xdone dX0_init_48 (by decide) (by decide) rfl (hN_of (by decide) (by decide)) hf.1 rfl (no_of (by decide +kernel)) hf.2 (fun _ _ => rfl)
def LS_0 : List Nat := [31, 118, 119, 23, 22, 120, 121, 122, 123, 124, 125, 126, 127, 128, 129, 130, 131, 132, 133, 134, 135, 13, 14, 15]
theorem gi_X5_0 : GI D cA mX5_init 23 1412 5 (PK cA LS_0 31) := by
  refine GW.start (ci := 5) 31 M0 (by decide) (fun j => rfl) (fun ad q => ?_)
  refine GW.aload_n (j := 0) dX5_init_0 rfl ?_
  refine GW.obj dX5_init_1 obj_X5 obj_I obj_C (by decide) (by decide) ?_
  refine GW.aload_n (j := 0) dX5_init_4 rfl ?_
  refine GW.smk (r := 118) (L1 := [118, 119]) dX5_init_5 dX5_init_8 dX5_init_9 cls_X6 oc_X6_init rfl rfl rfl (by decide) clI_X5_7 inst_X6 im_X6_init mlI_X5_9 ⟨by decide, by decide⟩ (Nat.le_of_ble_eq_true rfl) (by decide) (by decide) (gi_X6 (t := 9) (by decide)) (by decide) (fun _ _ => rfl) (by decide) (by decide) clo_nil (clo_of (by decide +kernel)) (fun ad1 _ => ?_)
  refine GW.sref (j := 0) (r := 118) dX5_init_12 cls_X5 (by decide) rfl rfl rfl flI_X5_10 rfl (Or.inl ⟨_, rfl⟩) (uq_of (by decide) (by decide)) ?_
  refine GW.aload_n (j := 0) dX5_init_15 rfl ?_
  refine GW.smk (r := 22) (L1 := LB_1) dX5_init_16 dX5_init_19 dX5_init_20 cls_X0 oc_X0_init rfl rfl rfl (by decide) clI_X5_16 inst_X0 im_X0_init mlI_X5_18 ⟨by decide, by decide⟩ (Nat.le_of_ble_eq_true rfl) (by decide) (by decide) gi_X0_1 (by decide) (fun _ _ => rfl) (by decide) (by decide) (clo_of (by decide +kernel)) (clo_of (by decide +kernel)) (fun ad2 _ => ?_)
  refine GW.sref (j := 1) (r := 22) dX5_init_23 cls_X5 (by decide) rfl rfl rfl flI_X5_19 rfl (Or.inl ⟨_, rfl⟩) (uq_of (by decide) (by decide)) ?_
  refine GW.aload_n (j := 0) dX5_init_26 rfl ?_
  refine GW.smk (r := 13) (L1 := [13, 14, 15]) dX5_init_27 dX5_init_30 dX5_init_31 cls_X3 oc_X3_init rfl rfl rfl (by decide) clI_X5_23 inst_X3 im_X3_init mlI_X5_25 ⟨by decide, by decide⟩ (Nat.le_of_ble_eq_true rfl) (by decide) (by decide) gi_X3_1 (by decide) (fun _ _ => rfl) (by decide) (by decide) (clo_of (by decide +kernel)) (clo_of (by decide +kernel)) (fun ad3 _ => ?_)
  refine GW.sref (j := 2) (r := 13) dX5_init_34 cls_X5 (by decide) rfl rfl rfl flI_X5_26 rfl (Or.inl ⟨_, rfl⟩) (uq_of (by decide) (by decide)) ?_
  refine GW.aload_n (j := 0) dX5_init_37 rfl ?_
  refine GW.iconst dX5_init_38 ?_
  refine GW.sval0 (j := 3) dX5_init_39 cls_X5 (by decide) rfl rfl rfl flI_X5_30 rfl in_z0 rfl (by decide) ?_
  have hf := fl_of (o := 31) (ci := 5) (S := [13, 22, 118]) (by decide) (by decide +kernel)
  exact GW.sdone dX5_init_42 (by decide) (by decide) hf.1 rfl (no_of (by decide +kernel)) hf.2 (fun _ _ => rfl)
def LS_1 : List Nat := [32, 136, 137, 25, 24, 138, 139, 140, 141, 142, 143, 144, 145, 146, 147, 148, 149, 150, 151, 152, 153, 16, 17, 18]
theorem gi_X5_1 : GI D cA mX5_init 23 1412 5 (PK cA LS_1 32) := by
  refine GW.start (ci := 5) 32 M0 (by decide) (fun j => rfl) (fun ad q => ?_)
  refine GW.aload_n (j := 0) dX5_init_0 rfl ?_
  refine GW.obj dX5_init_1 obj_X5 obj_I obj_C (by decide) (by decide) ?_
  refine GW.aload_n (j := 0) dX5_init_4 rfl ?_
  refine GW.smk (r := 136) (L1 := [136, 137]) dX5_init_5 dX5_init_8 dX5_init_9 cls_X6 oc_X6_init rfl rfl rfl (by decide) clI_X5_7 inst_X6 im_X6_init mlI_X5_9 ⟨by decide, by decide⟩ (Nat.le_of_ble_eq_true rfl) (by decide) (by decide) (gi_X6 (t := 18) (by decide)) (by decide) (fun _ _ => rfl) (by decide) (by decide) clo_nil (clo_of (by decide +kernel)) (fun ad1 _ => ?_)
  refine GW.sref (j := 0) (r := 136) dX5_init_12 cls_X5 (by decide) rfl rfl rfl flI_X5_10 rfl (Or.inl ⟨_, rfl⟩) (uq_of (by decide) (by decide)) ?_
  refine GW.aload_n (j := 0) dX5_init_15 rfl ?_
  refine GW.smk (r := 24) (L1 := LB_2) dX5_init_16 dX5_init_19 dX5_init_20 cls_X0 oc_X0_init rfl rfl rfl (by decide) clI_X5_16 inst_X0 im_X0_init mlI_X5_18 ⟨by decide, by decide⟩ (Nat.le_of_ble_eq_true rfl) (by decide) (by decide) gi_X0_2 (by decide) (fun _ _ => rfl) (by decide) (by decide) (clo_of (by decide +kernel)) (clo_of (by decide +kernel)) (fun ad2 _ => ?_)
  refine GW.sref (j := 1) (r := 24) dX5_init_23 cls_X5 (by decide) rfl rfl rfl flI_X5_19 rfl (Or.inl ⟨_, rfl⟩) (uq_of (by decide) (by decide)) ?_
  refine GW.aload_n (j := 0) dX5_init_26 rfl ?_
  refine GW.smk (r := 16) (L1 := [16, 17, 18]) dX5_init_27 dX5_init_30 dX5_init_31 cls_X3 oc_X3_init rfl rfl rfl (by decide) clI_X5_23 inst_X3 im_X3_init mlI_X5_25 ⟨by decide, by decide⟩ (Nat.le_of_ble_eq_true rfl) (by decide) (by decide) gi_X3_2 (by decide) (fun _ _ => rfl) (by decide) (by decide) (clo_of (by decide +kernel)) (clo_of (by decide +kernel)) (fun ad3 _ => ?_)
  refine GW.sref (j := 2) (r := 16) dX5_init_34 cls_X5 (by decide) rfl rfl rfl flI_X5_26 rfl (Or.inl ⟨_, rfl⟩) (uq_of (by decide) (by decide)) ?_
  refine GW.aload_n (j := 0) dX5_init_37 rfl ?_
  refine GW.iconst dX5_init_38 ?_
  refine GW.sval0 (j := 3) dX5_init_39 cls_X5 (by decide) rfl rfl rfl flI_X5_30 rfl in_z0 rfl (by decide) ?_
  have hf := fl_of (o := 32) (ci := 5) (S := [16, 24, 136]) (by decide) (by decide +kernel)
  exact GW.sdone dX5_init_42 (by decide) (by decide) hf.1 rfl (no_of (by decide +kernel)) hf.2 (fun _ _ => rfl)
end RX
