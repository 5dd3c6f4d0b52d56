/-! ===== rules over a constructor's state ===== -/
/-- the memory when all is made -/
def M0 : Mem := fun o => match o with
  | 0 => fun j => if j = 6 ∨ j = 7 then 1 else 0
  | 34 => fun j => if j = 3 then 1 else 0
  | 200 => fun j => if j = 4 ∨ j = 5 then 1 else 0
  | 11 => fun j => if j < 16 then 1 else 0
  | 12 => fun j => if j < 16 then 1 else 0
  | 14 => fun j => if j < 16 then 1 else 0
  | 15 => fun j => if j < 16 then 1 else 0
  | 17 => fun j => if j < 16 then 1 else 0
  | 18 => fun j => if j < 16 then 1 else 0
  | 331 => fun j => if j < 16 then 1 else 0
  | 332 => fun j => if j < 16 then 1 else 0
  | _ => fun _ => 0
/-- a constructor's result: the objects L, the first of them r -/
def PK (cA : FieldType → ClassId) (L : List Nat) (r : Nat) : Nat → va_W → Prop := fun q w => ∃ ad, ad r = q ∧ w = pk cA ad M0 L
section GS
variable {D : va_G} {cA : FieldType → ClassId} {m : MR} {mc ms pc k n : Nat} {loc loc' : List (Nat × Value)} {st : List Value} {ws E : va_W} {P : va_W → Prop} {ad : Nat → Nat} {M : Mem} {h o ci : Nat} {S L : List Nat}
theorem gs_head : (E ++ gs cA ad M h o ci S L)[E.length]? = some (h, .inr (ci, fdP ad M o ci S)) := by
  rw [List.getElem?_append_right (Nat.le_refl _), Nat.sub_self]
  rfl
theorem gs_set {e : Nat × va_E} : (E ++ gs cA ad M h o ci S L).set E.length e = E ++ (e :: pk cA ad M L) := by
  rw [List.set_append_right _ _ (Nat.le_refl _), Nat.sub_self]
  rfl
theorem GW.sref {j r index : Nat} {C : String} {T : u_T} {N : Nat} (hd : decode m.2.1 pc = .ok (.putfield index, 3)) (hc : clsOK ci C T N) (hj : j < N) (hT : (T j).1 = C) (hown2 : C = m.1.cls) (hin : m.1.name = "<init>") (hl : Cond.fieldLink m.1.cls index C (T j).2.1 (T j).2.2.1 ∈ TB) (hr : rfs o j = some r) (hty : (∃ t, ftC ci j = .object t) ∨ ∃ t, ftC ci j = .array t) (hu : ∀ j', rfs o j' = some r → j' = j) (kk : GW D cA m mc ms (pc + 3) loc st (E ++ gs cA ad M h o ci (r :: S) L) k n P) : GW D cA m mc ms pc loc (.ref (ad r) :: .ref h :: st) (E ++ gs cA ad M h o ci S L) k n P := by
  have hjn : j < nFd ci := by rw [nFd_of hc]; exact hj
  refine GW.put hd hc hj hT hown2 hin hl gs_head ?_ ?_ (by rw [fdP_len]; exact hjn) gs_set ?_
  · rcases hty with ⟨t, ht⟩ | ⟨t, ht⟩ <;> rw [ht] <;> rfl
  · rcases hty with ⟨t, ht⟩ | ⟨t, ht⟩ <;> rw [ht] <;> rfl
  · rw [fdP_ref hjn hr hty hu]
    exact kk
theorem GW.sval {j index : Nat} {C : String} {T : u_T} {N : Nat} {z : Int} {v : Value} (hd : decode m.2.1 pc = .ok (.putfield index, 3)) (hc : clsOK ci C T N) (hj : j < N) (hT : (T j).1 = C) (hown2 : C = m.1.cls) (hin : m.1.name = "<init>") (hl : Cond.fieldLink m.1.cls index C (T j).2.1 (T j).2.2.1 ∈ TB) (hp : plainT (ftC ci j) = true) (hz : inT (ftC ci j) z) (hv : v = cS ad (ftC ci j) ((rfs o j).filter (fun r => decide (r ∈ S))) z) (ho : o ∉ L) (kk : GW D cA m mc ms (pc + 3) loc st (E ++ gs cA ad (up2 M o j z) h o ci S L) k n P) : GW D cA m mc ms pc loc (v :: .ref h :: st) (E ++ gs cA ad M h o ci S L) k n P := by
  have hjn : j < nFd ci := by rw [nFd_of hc]; exact hj
  obtain ⟨h1, h2⟩ := nar_ok (ad := ad) (r := (rfs o j).filter (fun r => decide (r ∈ S))) hp hz
  rw [← hv] at h1 h2
  refine GW.put hd hc hj hT hown2 hin hl gs_head h1 h2 (by rw [fdP_len]; exact hjn) gs_set ?_
  rw [fdP_val hjn hv, ← pk_cg (cA := cA) (ad' := ad) (ad := ad) (M' := up2 M o j z) (M := M) (L := L) (fun x hx => ⟨rfl, funext (fun i => up2_o (fun q => ho (q ▸ hx))), fun _ _ _ => rfl⟩)]
  exact kk
/-- a field set to what it should hold already -/
theorem GW.sval0 {j index : Nat} {C : String} {T : u_T} {N : Nat} {v : Value} (hd : decode m.2.1 pc = .ok (.putfield index, 3)) (hc : clsOK ci C T N) (hj : j < N) (hT : (T j).1 = C) (hown2 : C = m.1.cls) (hin : m.1.name = "<init>") (hl : Cond.fieldLink m.1.cls index C (T j).2.1 (T j).2.2.1 ∈ TB) (hp : plainT (ftC ci j) = true) (hz : inT (ftC ci j) (M o j)) (hv : v = cS ad (ftC ci j) ((rfs o j).filter (fun r => decide (r ∈ S))) (M o j)) (ho : o ∉ L) (kk : GW D cA m mc ms (pc + 3) loc st (E ++ gs cA ad M h o ci S L) k n P) : GW D cA m mc ms pc loc (v :: .ref h :: st) (E ++ gs cA ad M h o ci S L) k n P := by
  refine GW.sval hd hc hj hT hown2 hin hl hp hz hv ho ?_
  have e : up2 M o j (M o j) = M := by
    funext x i
    unfold up2
    split
    next q => rw [q.1, q.2]
    next => rfl
  rw [e]
  exact kk
theorem GW.sget {j r index : Nat} {C : String} {T : u_T} {N : Nat} (hd : decode m.2.1 pc = .ok (.getfield index, 3)) (hc : clsOK ci C T N) (hj : j < N) (hT : (T j).1 = C) (hl : Cond.fieldLink m.1.cls index C (T j).2.1 (T j).2.2.1 ∈ TB) (hr : rfs o j = some r) (hty : (∃ t, ftC ci j = .object t) ∨ ∃ t, ftC ci j = .array t) (hS : r ∈ S) (kk : GW D cA m mc ms (pc + 3) loc (.ref (ad r) :: st) (E ++ gs cA ad M h o ci S L) k n P) : GW D cA m mc ms pc loc (.ref h :: st) (E ++ gs cA ad M h o ci S L) k n P := by
  have hjn : j < nFd ci := by rw [nFd_of hc]; exact hj
  refine GW.get (v := .ref (ad r)) hd hc hj hT hl gs_head ?_ kk
  rw [fdP_at hjn, hr, Option.filter_some, if_pos (by simp [hS])]
  rcases hty with ⟨t, ht⟩ | ⟨t, ht⟩ <;> rw [ht] <;> rfl
theorem GW.sarr {atype : ArrayType} {ty : FieldType} {z : Int} {N r : Nat} (hd : decode m.2.1 pc = .ok (.newarray atype, 2)) (hat : newarray.typeOf atype = ty) (hty : ty = .byte ∨ ty = .int ∨ ty = .boolean) (hw : Cond.arrayClass ty ∈ TB) (hz : z = (N : Int)) (hN : N < 10000) (hk : k + 1 ≤ mc) (hn : n + N ≤ ms) (hkd : kd r = some (.inr (ty, N))) (h0 : ∀ j, M r j = 0) (hrf : ∀ j, rfs r j = none) (hS : r ∉ S) (hL : r ∉ L) (hcl : clo L) (kk : ∀ ad' : Nat → Nat, (∀ x, x ≠ r → ad' x = ad x) → GW D cA m mc ms (pc + 2) loc (.ref (ad' r) :: st) (E ++ gs cA ad' M h o ci S (L ++ [r])) (k + 1) (n + N) P) : GW D cA m mc ms pc loc (.int (Int32.ofInt z) :: st) (E ++ gs cA ad M h o ci S L) k n P := by
  refine GW.newa hd hat hty hw hz hN hk hn (fun q => ?_)
  have e1 : pk cA (fun _ => q) M [r] = [(q, .inl (cA ty, N, .inl (fun _ => 0)))] := by
    show [(q, ent cA (fun _ => q) M r)] = _
    rw [ent_a hkd]
    have e2 : arP (fun _ => q) M r ty = .inl (fun _ => 0) := by
      unfold arP
      have e3 : (fun j => Int32.ofInt (M r j)) = (fun _ => (0 : Int32)) := by funext j; rw [h0]; rfl
      rcases hty with rfl | rfl | rfl <;> simp only [e3]
    rw [e2]
  have hj := gs_join (cA := cA) (ad := ad) (ad' := fun x => if x = r then q else ad x) (ad1 := fun _ => q) (M := M) (M1 := M) (h := h) (o := o) (ci := ci) (S := S) (L := L) (L1 := [r]) (fun x hx => if_neg (fun e => hx (by simp [e]))) (fun x hx => if_pos (by simpa using hx)) (fun _ _ => rfl) (fun x hx hq => hS (by rw [← show x = r by simpa using hq]; exact hx)) (fun x hx hq => hL (by rw [← show x = r by simpa using hq]; exact hx)) hcl (fun x hx j y hy => by rw [show x = r by simpa using hx, hrf j] at hy; cases hy)
  rw [e1] at hj
  rw [List.append_assoc, hj]
  have := kk (fun x => if x = r then q else ad x) (fun x hx => if_neg hx)
  simp only [if_true] at this
  exact this
theorem GW.smk {y : MR} {C : String} {T : u_T} {N ci1 i1 i2 mcy msy r : Nat} {L1 : List Nat} (hd1 : decode m.2.1 pc = .ok (.new i1, 3)) (hd2 : decode m.2.1 (pc + 3) = .ok (.dup, 1)) (hd3 : decode m.2.1 (pc + 4) = .ok (.invokespecial i2, 3)) (hc : clsOK ci1 C T N) (hy : okC y 0) (hyc : y.1.cls = C) (hyn : y.1.name = "<init>") (hyr : y.2.2.2.1 = none) (hyl : 1 ≤ y.2.2.1) (hcl : Cond.classLink m.1.cls i1 C ∈ TB) (hinst : Cond.instantiable C N ∈ TB) (him : Cond.instanceMethod y.1 ∈ TB) (hl : ML m.1.cls i2 y.1) (hrm : okRm m y) (hst : (st.map fun v => v.category).sum ≤ 6) (hk : k + 1 + mcy ≤ mc) (hn : n + N + msy ≤ ms) (hG : GI D cA y mcy msy ci1 (PK cA L1 r)) (hr : r ∈ L1) (hM : ∀ x, x ∈ L1 → M0 x = M x) (hS : ∀ x ∈ S, x ∉ L1) (hL : ∀ x ∈ L, x ∉ L1) (hcl0 : clo L) (hcl1 : clo L1)
    (kk : ∀ ad' : Nat → Nat, (∀ x, x ∉ L1 → ad' x = ad x) → GW D cA m mc ms (pc + 7) loc (.ref (ad' r) :: st) (E ++ gs cA ad' M h o ci S (L ++ L1)) (k + 1 + mcy) (n + N + msy) P) : GW D cA m mc ms pc loc st (E ++ gs cA ad M h o ci S L) k n P := by
  refine GW.mk hd1 hd2 hd3 hc hy hyc hyn hyr hyl hcl hinst him hl hrm hst hk hn hG (fun q w1 hw => ?_)
  obtain ⟨ad1, rfl, rfl⟩ := hw
  have hj := gs_join (cA := cA) (ad := ad) (ad' := fun x => if x ∈ L1 then ad1 x else ad x) (ad1 := ad1) (M := M) (M1 := M0) (h := h) (o := o) (ci := ci) (S := S) (L := L) (L1 := L1) (fun x hx => if_neg hx) (fun x hx => if_pos hx) hM hS hL hcl0 hcl1
  rw [List.append_assoc, hj]
  have := kk (fun x => if x ∈ L1 then ad1 x else ad x) (fun x hx => if_neg hx)
  simp only [hr, if_true] at this
  exact this
theorem gs_fin (hf : ∀ j r, j < nFd ci → rfs o j = some r → r ∈ S ∨ plainT (ftC ci j) = true) (hkd : kd o = some (.inl ci)) (hLo : ∀ x ∈ L, x ≠ o ∧ ∀ j r, rfs x j = some r → r ≠ o) (hoo : ∀ j r, rfs o j = some r → r ≠ o) (hM : ∀ x ∈ o :: L, M0 x = M x) : ∃ ad', ad' o = h ∧ (∀ x, x ≠ o → ad' x = ad x) ∧ gs cA ad M h o ci S L = pk cA ad' M0 (o :: L) := by
  refine ⟨fun x => if x = o then h else ad x, if_pos rfl, fun x hx => if_neg hx, ?_⟩
  unfold gs
  show _ = (_, ent cA _ M0 o) :: pk cA _ M0 L
  rw [pk_cg (ad' := fun x => if x = o then h else ad x) (ad := ad) (M' := M0) (M := M) (L := L) (fun x hx => ⟨if_neg (hLo x hx).1, hM x (List.mem_cons_of_mem _ hx), fun j r hr => if_neg ((hLo x hx).2 j r hr)⟩)]
  rw [ent_cg (ad' := fun x => if x = o then h else ad x) (ad := ad) (M' := M0) (M := M) (fun j r hr => if_neg (hoo j r hr)) (hM o List.mem_cons_self), ent_o hkd, fdP_full hf]
  simp
theorem GW.start {y : MR} {mcy msy : Nat} {P' : Nat → va_W → Prop} (o : Nat) (M : Mem) (hp : ∀ j, j < nFd ci → ftC ci j ≠ .float ∧ ftC ci j ≠ .double) (hz : ∀ j, M o j = 0) (kk : ∀ (ad : Nat → Nat) (q : Nat), GW D cA y mcy msy 0 [(0, .ref q)] [] ([] ++ gs cA ad M q o ci [] []) 0 0 (P' q)) : GI D cA y mcy msy ci P' := by
  intro q
  have := kk (fun _ => 0) q
  unfold gs at this
  rw [← fdP_nil hp hz] at this
  exact this
theorem GW.sdone (hd : decode m.2.1 pc = .ok (.return_, 1)) (hk : k ≤ mc) (hn : n ≤ ms) (hf : ∀ j r, j < nFd ci → rfs o j = some r → r ∈ S ∨ plainT (ftC ci j) = true) (hkd : kd o = some (.inl ci)) (hLo : ∀ x ∈ L, x ≠ o ∧ ∀ j r, rfs x j = some r → r ≠ o) (hoo : ∀ j r, rfs o j = some r → r ≠ o) (hM : ∀ x ∈ o :: L, M0 x = M x) : GW D cA m mc ms pc loc [] ([] ++ gs cA ad M h o ci S L) k n (PK cA (o :: L) o h) := by
  refine GW.done hd hk hn ?_
  obtain ⟨ad', h1, -, h2⟩ := gs_fin (cA := cA) (ad := ad) (h := h) hf hkd hLo hoo hM
  exact ⟨ad', h1, h2⟩
end GS
